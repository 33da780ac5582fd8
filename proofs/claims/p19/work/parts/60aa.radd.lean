/-! Of the reference and of numbers (as in p1, part 77.). -/
theorem jw_self_loop {D n x : Nat} {g0 : Int32} {g : Nat → Int32} (hn : n < 2147483648) (hcap : jnl (x + x) ≤ n) (hg : ∀ j, j < jnl x → g j = jn (jlb x j)) {Q : mj_R → Prop}
    (hend : ∀ (gi : Nat → Int32) (sz : Int), (jnl (x + x) = 0 ∨ sz = jnl (x + x)) → (∀ j, j < jnl (x + x) → gi j = jn (jlb (x + x) j)) → Q (.inl none, (jH1 n sz g0 gi))) :
    ∀ (d i : Nat) (gi : Nat → Int32) (sz : Int) (l6 : Option Value), i + d = n → i ≤ jnl (x + x) → (i = 0 ∨ sz = i) → (∀ j, j < i → gi j = jn (jlb (x + x) j)) → (∀ j, i ≤ j → gi j = g j) →
      mj_T D mj_m93 24 [some (.ref 0), some (.ref 0), some (.int (jn (jnl x))), some (.int (jn (jnl x))), some (.int (jn (jcy x x i))), some (.int (jn i)), l6] [] (jH1 n sz g0 gi) Q := by
  intro d
  induction d with
  | zero =>
    intro i gi sz l6 hid hil hsz hg1 hg2
    iterate 3 refine mj_T.pl rfl rfl rfl rfl ?_
    refine mj_T.alen rfl rfl ?_
    refine mj_T.icmp rfl ⟨by omega, by omega⟩ ⟨by omega, by omega⟩ (fun hc31 => ?_) (fun hc31 => ?_)
    · have e : i = jnl (x + x) := by omega
      subst e
      exact mj_T.ret rfl rfl rfl (hend gi sz (by omega) hg1)
    · simp only [jc, decide_eq_false_iff_not] at hc31; omega
  | succ d ih =>
    intro i gi sz l6 hid hil hsz hg1 hg2
    have hcx := jcy_le x x i
    have hxn : jnl x ≤ n := Nat.le_trans (jnl_mono (Nat.le_add_right x x)) hcap
    iterate 3 refine mj_T.pl rfl rfl rfl rfl ?_
    refine mj_T.alen rfl rfl ?_
    refine mj_T.icmp rfl ⟨by omega, by omega⟩ ⟨by omega, by omega⟩ (fun hc31 => ?_) (fun hc31 => ?_)
    · simp only [jc, decide_eq_true_eq] at hc31; omega
    clear hc31
    have key : (i < jnl x ∨ i < jnl x ∨ 0 < jcy x x i) → mj_T D mj_m93 51 [some (.ref 0), some (.ref 0), some (.int (jn (jnl x))), some (.int (jn (jnl x))), some (.int (jn (jcy x x i))), some (.int (jn i)), l6] [] (jH1 n sz g0 gi) Q := by
      intro hgo
      have hl := jcy_limb x x i
      have hnx := jcy_next x x i
      have hx1 := jlb_lt x i
      have hy1 := jlb_lt x i
      have hnl := jcy_grow hgo
      have t5 : ∀ (z s : Int), s = (jlb x i + jlb x i + jcy x x i : Nat) → z = (jcy x x (i + 1) : Nat) → mj_T D mj_m93 103 [some (.ref 0), some (.ref 0), some (.int (jn (jnl x))), some (.int (jn (jnl x))), some (.int (jn (jcy x x i))), some (.int (jn i)), some (.int (jn s))] [.int (jn z)] (jH1 n sz g0 gi) Q := by
        intro z s hs hz
        iterate 7 refine mj_T.pl rfl rfl rfl rfl ?_
        refine mj_T.imul (b := 1000000000) rfl ?_
        refine mj_T.isub rfl ?_
        refine mj_T.iast rfl rfl ⟨by omega, by omega⟩ ⟨by omega, by omega⟩ ?_
        iterate 3 refine mj_T.pl rfl rfl rfl rfl ?_
        refine mj_T.iadd (b := 1) rfl ?_
        refine mj_T.pl rfl rfl rfl rfl ?_
        refine mj_T.iinc (a := i) rfl rfl ?_
        refine mj_T.pl rfl rfl rfl rfl ?_
        subst hz
        refine ih (i + 1) (upd gi i (jn (s - (jcy x x (i + 1) : Nat) * 1000000000))) (i + 1) (some (.int (jn s))) (by omega) (by omega) (Or.inr (by omega)) (fun j hj => ?_) (fun j hj => ?_)
        · unfold upd
          split
          · rename_i h
            subst h
            congr 1
            rw [hl, hs, hnx]
            have := Nat.div_add_mod (jlb x j + jlb x j + jcy x x j) 1000000000
            show _ = (((jlb x j + jlb x j + jcy x x j) % 1000000000 : Nat) : Int)
            have e2 : ((jlb x j + jlb x j + jcy x x j) / jB : Nat) = (jlb x j + jlb x j + jcy x x j) / 1000000000 := rfl
            rw [e2]
            omega
          · exact hg1 j (by omega)
        · unfold upd
          rw [if_neg (by omega)]
          exact hg2 j (by omega)
      have t4 : ∀ (z : Int) (s : Int), s = (jlb x i + jcy x x i : Nat) → z = (jlb x i : Nat) → mj_T D mj_m93 88 [some (.ref 0), some (.ref 0), some (.int (jn (jnl x))), some (.int (jn (jnl x))), some (.int (jn (jcy x x i))), some (.int (jn i)), l6] [.int (jn z), .int (jn s)] (jH1 n sz g0 gi) Q := by
        intro z s hs hz
        refine mj_T.iadd rfl ?_
        iterate 3 refine mj_T.pl rfl rfl rfl rfl ?_
        have e2 : ((jlb x i + jlb x i + jcy x x i) / jB : Nat) = (jlb x i + jlb x i + jcy x x i) / 1000000000 := rfl
        refine mj_T.icmp (b := 1000000000) rfl ⟨by omega, by omega⟩ ⟨by omega, by omega⟩ (fun hc95 => ?_) (fun hc95 => ?_)
        · simp only [jc, decide_eq_true_eq] at hc95
          refine mj_T.pl rfl rfl rfl rfl ?_
          exact t5 0 (s + z) (by omega) (by omega)
        · simp only [jc, decide_eq_false_iff_not] at hc95
          iterate 2 refine mj_T.pl rfl rfl rfl rfl ?_
          exact t5 1 (s + z) (by omega) (by omega)
      have t3 : ∀ (z : Int), z = (jlb x i : Nat) → mj_T D mj_m93 70 [some (.ref 0), some (.ref 0), some (.int (jn (jnl x))), some (.int (jn (jnl x))), some (.int (jn (jcy x x i))), some (.int (jn i)), l6] [.int (jn z), .int (jn (jcy x x i))] (jH1 n sz g0 gi) Q := by
        intro z hz
        refine mj_T.iadd rfl ?_
        iterate 2 refine mj_T.pl rfl rfl rfl rfl ?_
        refine mj_T.icmp rfl ⟨by omega, by omega⟩ ⟨by omega, by omega⟩ (fun hc74 => ?_) (fun hc74 => ?_)
        · simp only [jc, decide_eq_true_eq] at hc74
          refine mj_T.pl rfl rfl rfl rfl ?_
          exact t4 0 _ (by omega) (by have := jlb_high (x := x) (j := i) (by omega); omega)
        · simp only [jc, decide_eq_false_iff_not] at hc74
          iterate 3 refine mj_T.pl rfl rfl rfl rfl ?_
          refine mj_T.ialv rfl rfl ⟨by omega, by omega⟩ ⟨by omega, by omega⟩ ((hg2 i (Nat.le_refl i)).trans (hg i (by omega))) ?_
          refine mj_T.pl rfl rfl rfl rfl ?_
          exact t4 _ _ (by omega) rfl
      iterate 3 refine mj_T.pl rfl rfl rfl rfl ?_
      refine mj_T.icmp rfl ⟨by omega, by omega⟩ ⟨by omega, by omega⟩ (fun hc56 => ?_) (fun hc56 => ?_)
      · simp only [jc, decide_eq_true_eq] at hc56
        refine mj_T.pl rfl rfl rfl rfl ?_
        exact t3 0 (by have := jlb_high (x := x) (j := i) (by omega); omega)
      · simp only [jc, decide_eq_false_iff_not] at hc56
        iterate 3 refine mj_T.pl rfl rfl rfl rfl ?_
        refine mj_T.ialv rfl rfl ⟨by omega, by omega⟩ ⟨by omega, by omega⟩ ((hg2 i (Nat.le_refl i)).trans (hg i (by omega))) ?_
        refine mj_T.pl rfl rfl rfl rfl ?_
        exact t3 _ rfl
    iterate 2 refine mj_T.pl rfl rfl rfl rfl ?_
    refine mj_T.icmp rfl ⟨by omega, by omega⟩ ⟨by omega, by omega⟩ (fun hc37 => ?_) (fun hc37 => ?_)
    · simp only [jc, decide_eq_true_eq] at hc37
      exact key (by omega)
    · simp only [jc, decide_eq_false_iff_not] at hc37
      iterate 2 refine mj_T.pl rfl rfl rfl rfl ?_
      refine mj_T.icmp rfl ⟨by omega, by omega⟩ ⟨by omega, by omega⟩ (fun hc43 => ?_) (fun hc43 => ?_)
      · simp only [jc, decide_eq_true_eq] at hc43
        exact key (by omega)
      · simp only [jc, decide_eq_false_iff_not] at hc43
        refine mj_T.pl rfl rfl rfl rfl ?_
        refine mj_T.if0 rfl ⟨by omega, by omega⟩ (fun hc48 => ?_) (fun hc48 => ?_)
        · simp only [jc, decide_eq_true_eq] at hc48
          have e : i = jnl (x + x) := by have := jcy_end (x := x) (y := x) (i := i) (by omega) (by omega) (by omega); omega
          subst e
          exact mj_T.ret rfl rfl rfl (hend gi sz (by omega) hg1)
        · simp only [jc, decide_eq_false_iff_not] at hc48
          exact key (by omega)
theorem jw_self {D n x : Nat} {g0 : Int32} {g : Nat → Int32} (hn : n < 2147483648) (hcap : jnl (x + x) ≤ n) (hg : ∀ j, j < jnl x → g j = jn (jlb x j)) (h0 : 0 < x) :
    mj_Ok (D + 1) 93 [.ref 0, .ref 0] (jH1 n (jnl x) g0 g)
      (fun r => ∃ g' : Nat → Int32, (∀ j, j < jnl (x + x) → g' j = jn (jlb (x + x) j)) ∧ r = (.inl none, (jH1 n (jnl (x + x)) g0 g'))) := by
  have hxn : jnl x ≤ n := Nat.le_trans (jnl_mono (Nat.le_add_right x x)) hcap
  refine mj_Ok.of (M := mj_m93) rfl rfl rfl ?_
  iterate 7 refine mj_T.pl rfl rfl rfl rfl ?_
  refine mj_T.alen rfl rfl ?_
  refine mj_T.imin rfl rfl (Nat.le_of_ble_eq_true rfl) ⟨by omega, by omega⟩ ⟨by omega, by omega⟩ ?_
  rw [show min (jnl x : Int) (n : Int) = (jnl x : Nat) by omega]
  iterate 5 refine mj_T.pl rfl rfl rfl rfl ?_
  refine mj_T.eq (jw_self_loop (x := x) (g := g) hn hcap hg (fun gi sz hsz hgi => ?_) n 0 g (jnl x) none (by omega) (Nat.zero_le _) (Or.inl rfl) (fun j hj => by omega) (fun j _ => rfl)) rfl ?_ rfl rfl
  · rcases hsz with h | h
    · have := jnl_eq0.mp h; omega
    · subst h; exact ⟨gi, hgi, rfl⟩
  · rw [jcy_zero]; rfl
theorem jw_plus_self {D n : Nat} {u : Int} {g : Nat → Int32} (hn : n < 2147483648) (hu : jnl u.natAbs ≤ n) (hcap : jnl (u + u).natAbs ≤ n) (hg : ∀ j, j < jnl u.natAbs → g j = jn (jlb u.natAbs j)) :
    mj_Ok (D + 2) 91 [.ref 0, .ref 0, .int (jn 1)] (jH1 n (jnl u.natAbs) (jn (jsg u)) g)
      (fun r => ∃ g' : Nat → Int32, (∀ j, j < jnl (u + u).natAbs → g' j = jn (jlb (u + u).natAbs j)) ∧ r = (.inl none, jH1 n (jnl (u + u).natAbs) (jn (jsg (u + u))) g')) := by
  have hsu := jsg_range u
  refine mj_Ok.of (M := mj_m91) rfl rfl rfl ?_
  iterate 3 refine mj_T.pl rfl rfl rfl rfl ?_
  refine mj_T.imul rfl ?_
  rw [Int.mul_one]
  iterate 2 refine mj_T.pl rfl rfl rfl rfl ?_
  refine mj_T.if0 rfl ⟨by omega, by omega⟩ (fun hc8 => ?_) (fun hc8 => ?_)
  · simp only [jc, Bool.not_eq_true', decide_eq_false_iff_not] at hc8
    have hz : u ≠ 0 := fun h => hc8 (by rw [h]; rfl)
    iterate 2 refine mj_T.pl rfl rfl rfl rfl ?_
    refine mj_T.if0 rfl ⟨by omega, by omega⟩ (fun hc16 => ?_) (fun hc16 => ?_)
    · iterate 3 refine mj_T.pl rfl rfl rfl rfl ?_
      refine mj_T.icmp rfl ⟨by omega, by omega⟩ ⟨by omega, by omega⟩ (fun hc37 => ?_) (fun hc37 => ?_)
      · exact absurd hc37 (by simp [jc])
      have e : (u + u).natAbs = u.natAbs + u.natAbs := by omega
      iterate 2 refine mj_T.pl rfl rfl rfl rfl ?_
      refine mj_T.call (ins := .invokevirtual 32) rfl rfl (Nat.le_of_ble_eq_true rfl) (Nat.le_of_ble_eq_true rfl) rfl rfl (jw_self (D := D) (x := u.natAbs) hn (by rw [← e]; exact hcap) hg (by omega)) (fun v h' hq' => ?_) (fun i h' hq' => by obtain ⟨_, _, hq'⟩ := hq'; cases hq')
      obtain ⟨g', hg', hq'⟩ := hq'
      cases hq'
      rw [← e] at hg' ⊢
      refine mj_T.pl rfl rfl rfl rfl ?_
      iterate 3 refine mj_T.pl rfl rfl rfl rfl ?_
      refine mj_T.if0 rfl ⟨by omega, by omega⟩ (fun hc81 => ?_) (fun hc81 => ?_)
      · iterate 3 refine mj_T.pl rfl rfl rfl rfl ?_
        have es : jsg u = jsg (u + u) := by
          rcases Int.lt_trichotomy u 0 with q | q | q
          · rw [jsg_neg q, jsg_neg (by omega)]
          · exact absurd q hz
          · rw [jsg_pos q, jsg_pos (by omega)]
        rw [es]
        exact mj_T.ret rfl rfl rfl ⟨g', hg', rfl⟩
      · simp only [jc, Bool.not_eq_false', decide_eq_true_eq] at hc81
        have h0 : (u + u).natAbs = 0 := jnl_eq0.mp (by omega)
        omega
    · simp only [jc, Bool.not_eq_false', decide_eq_true_eq] at hc16
      rcases Int.lt_trichotomy u 0 with q | q | q
      · rw [jsg_neg q] at hc16; omega
      · exact absurd q hz
      · rw [jsg_pos q] at hc16; omega
  · simp only [jc, Bool.not_eq_false', decide_eq_true_eq] at hc8
    have hz : u = 0 := by
      rcases Int.lt_trichotomy u 0 with q | q | q
      · rw [jsg_neg q] at hc8; omega
      · exact q
      · rw [jsg_pos q] at hc8; omega
    subst hz
    exact mj_T.ret rfl rfl rfl ⟨g, hg, rfl⟩
/-! Of the reference and of numbers (as in p1, part 78f). -/
theorem jq_length {D a b i : Nat} {v : Int} {h : mj_H} {fs' : List Value} {bg : Nat → Int32} (h1 : h[a]? = some (.inr (10, fs'))) (h2 : fs'[4]? = some (.ref b)) (h4 : h[b]? = some (.inl (0, 466830, fun j => .int (bg j)))) (hi : i < 665) (k1 : jrs bg i v) : mj_Ok (D + 1) 179 [.ref a, .int (jn (i : Nat))] h (fun r => r = (.inl (some (.int (jn (jnl v.natAbs : Nat)))), h)) := by
  refine mj_Ok.of (M := mj_m179) rfl rfl rfl ?_
  refine mj_T.pl rfl rfl rfl rfl ?_
  refine mj_T.step (loc' := mj_loc0 2 [.ref a, .int (jn i)]) (st' := [.ref b]) (h' := h) (pc' := 4) rfl rfl (by simp only [mj_step, h1, h2, if_true]; rfl) ?_
  iterate 2 refine mj_T.pl rfl rfl rfl rfl ?_
  refine mj_T.imul (b := 702) rfl ?_
  refine mj_T.pl rfl rfl rfl rfl ?_
  refine mj_T.iadd (b := 1) rfl ?_
  rw [show (i : Int) * 702 + 1 = ((i * 702 + 1 : Nat) : Int) by omega]
  refine mj_T.ialv rfl h4 ⟨by omega, by omega⟩ ⟨by omega, by omega⟩ k1.2.1 ?_
  exact mj_T.ret rfl rfl rfl rfl
/-! Of the reference and of numbers (as in p1, part 78i). -/
theorem jq_limb_step (x i : Nat) : x / jB ^ (i + 1) * 1000000000 + jlb x i = x / jB ^ i := by
  rw [Nat.pow_succ, ← Nat.div_div_eq_div_mul]
  exact Nat.div_add_mod' _ _
/-! Of the reference and of numbers (as in p1, part 78j). -/
theorem jq_sign {D a b i : Nat} {v : Int} {h : mj_H} {fs' : List Value} {bg : Nat → Int32} (h1 : h[a]? = some (.inr (10, fs'))) (h2 : fs'[4]? = some (.ref b)) (h4 : h[b]? = some (.inl (0, 466830, fun j => .int (bg j)))) (hi : i < 665) (k1 : jrs bg i v) : mj_Ok (D + 1) 178 [.ref a, .int (jn (i : Nat))] h (fun r => r = (.inl (some (.int (jn (jsg v)))), h)) := by
  refine mj_Ok.of (M := mj_m178) rfl rfl rfl ?_
  refine mj_T.pl rfl rfl rfl rfl ?_
  refine mj_T.step (loc' := mj_loc0 2 [.ref a, .int (jn i)]) (st' := [.ref b]) (h' := h) (pc' := 4) rfl rfl (by simp only [mj_step, h1, h2, if_true]; rfl) ?_
  iterate 2 refine mj_T.pl rfl rfl rfl rfl ?_
  refine mj_T.imul (b := 702) rfl ?_
  rw [show (i : Int) * 702 = ((i * 702 : Nat) : Int) by omega]
  refine mj_T.ialv rfl h4 ⟨by omega, by omega⟩ ⟨by omega, by omega⟩ k1.1 ?_
  exact mj_T.ret rfl rfl rfl rfl
theorem jq_limb {D a b i j : Nat} {v : Int} {h : mj_H} {fs' : List Value} {bg : Nat → Int32} (h1 : h[a]? = some (.inr (10, fs'))) (h2 : fs'[4]? = some (.ref b)) (h4 : h[b]? = some (.inl (0, 466830, fun j => .int (bg j)))) (hi : i < 665) (hj : j ≤ 700) (k1 : jrs bg i v) : mj_Ok (D + 2) 180 [.ref a, .int (jn (i : Nat)), .int (jn (j : Nat))] h (fun r => r = (.inl (some (.int (jn (jlb v.natAbs j : Nat)))), h)) := by
  have hlen := jq_length (D := D) h1 h2 h4 hi k1
  have k3 := k1.2.2.2
  have k4 := k1.2.2.1
  refine mj_Ok.of (D := D + 1) (M := mj_m180) rfl rfl rfl ?_
  iterate 3 refine mj_T.pl rfl rfl rfl rfl ?_
  refine mj_T.call (ins := .invokevirtual 52) rfl rfl (Nat.le_of_ble_eq_true rfl) (Nat.le_of_ble_eq_true rfl) (by simp [mj_recv, h1]) rfl hlen (fun v' h' hq' => ?_) (fun i h' hq' => by cases hq')
  cases hq'
  refine mj_T.icmp rfl ⟨by omega, by omega⟩ ⟨by omega, by omega⟩ (fun hc => ?_) (fun hc => ?_)
  · simp only [jc, decide_eq_true_eq] at hc
    refine mj_T.pl rfl rfl rfl rfl ?_
    refine mj_T.ret rfl rfl rfl ?_
    rw [jlb_high (show jnl v.natAbs ≤ j by omega)]
    rfl
  · simp only [jc, decide_eq_false_iff_not] at hc
    refine mj_T.pl rfl rfl rfl rfl ?_
    refine mj_T.step (loc' := mj_loc0 3 [.ref a, .int (jn i), .int (jn j)]) (st' := [.ref b]) (h' := h) (pc' := 13) rfl rfl (by simp only [mj_step, h1, h2, if_true]; rfl) ?_
    iterate 2 refine mj_T.pl rfl rfl rfl rfl ?_
    refine mj_T.imul (b := 702) rfl ?_
    refine mj_T.pl rfl rfl rfl rfl ?_
    refine mj_T.iadd (b := 2) rfl ?_
    refine mj_T.pl rfl rfl rfl rfl ?_
    refine mj_T.iadd rfl ?_
    rw [show (i : Int) * 702 + 2 + (j : Int) = ((i * 702 + 2 + j : Nat) : Int) by omega]
    refine mj_T.ialv rfl h4 ⟨by omega, by omega⟩ ⟨by omega, by omega⟩ (k4 j (by omega)) ?_
    refine mj_T.pl rfl rfl rfl rfl ?_
    exact mj_T.ret rfl rfl rfl rfl
theorem jq_long_loop {a b s : Nat} {v : Int} {h : mj_H} {fs' : List Value} {bg : Nat → Int32} {Q : mj_R → Prop} (h1 : h[a]? = some (.inr (10, fs'))) (h2 : fs'[4]? = some (.ref b)) (h4 : h[b]? = some (.inl (0, 466830, fun j => .int (bg j)))) (hi : s < 665) (k1 : jrs bg s v) (K : mj_T 2 mj_m195 37 [some (.ref a), some (.int (jn (s : Nat))), some (.long (jl (v.natAbs : Nat))), none, some (.int (jn (-1)))] [] h Q) : ∀ i, i ≤ jnl v.natAbs → mj_T 2 mj_m195 11 [some (.ref a), some (.int (jn (s : Nat))), some (.long (jl (v.natAbs / jB ^ i : Nat))), none, some (.int (jn ((i : Int) - 1)))] [] h Q
  | 0, hi0 => by
    refine mj_T.pl rfl rfl rfl rfl ?_
    refine mj_T.if0 rfl ⟨by omega, by omega⟩ (fun hc => ?_) (fun hc => ?_)
    · rw [Nat.pow_zero, Nat.div_one]
      exact K
    · simp only [jc, decide_eq_false_iff_not] at hc
      omega
  | i + 1, hi0 => by
    have ih := jq_long_loop h1 h2 h4 hi k1 K i (by omega)
    have hb := jlb_lt v.natAbs i
    have k3 := k1.2.2.2
    have hst : ((v.natAbs / jB ^ (i + 1) : Nat) : Int) * 1000000000 + ((jlb v.natAbs i : Nat) : Int) = ((v.natAbs / jB ^ i : Nat) : Int) := by
      rw [← jq_limb_step v.natAbs i, Int.natCast_add, Int.natCast_mul]
      rfl
    rw [show ((i + 1 : Nat) : Int) - 1 = (i : Int) by omega]
    generalize v.natAbs / jB ^ (i + 1) = y at hst ⊢
    refine mj_T.pl rfl rfl rfl rfl ?_
    refine mj_T.if0 rfl ⟨by omega, by omega⟩ (fun hc => ?_) (fun hc => ?_)
    · simp only [jc, decide_eq_true_eq] at hc
      omega
    · iterate 2 refine mj_T.pl rfl rfl rfl rfl ?_
      refine mj_T.lmul (b := 1000000000) rfl ?_
      iterate 3 refine mj_T.pl rfl rfl rfl rfl ?_
      refine mj_T.call (ins := .invokevirtual 64) rfl rfl (Nat.le_of_ble_eq_true rfl) (Nat.le_of_ble_eq_true rfl) (by simp [mj_recv, h1]) rfl (jq_limb (D := 0) h1 h2 h4 hi (show i ≤ 700 by omega) k1) (fun v' h' hq' => ?_) (fun i h' hq' => by cases hq')
      cases hq'
      refine mj_T.i2l rfl ⟨by omega, by omega⟩ ?_
      refine mj_T.ladd rfl ?_
      rw [hst]
      refine mj_T.pl rfl rfl rfl rfl ?_
      refine mj_T.iinc rfl rfl ?_
      refine mj_T.pl rfl rfl rfl rfl ?_
      exact ih
/-! Of the reference and of numbers (as in p1, part 78k). -/
theorem jq_slot {D p i : Nat} {h : mj_H} : mj_Ok (D + 1) 196 [.int (jn (p : Nat)), .int (jn (i : Nat))] h (fun r => r = (.inl (some (.int (jn (p * 13 + i : Nat)))), h)) := by
  refine mj_Ok.of (M := mj_m196) rfl rfl rfl ?_
  iterate 2 refine mj_T.pl rfl rfl rfl rfl ?_
  refine mj_T.imul (b := 13) rfl ?_
  refine mj_T.pl rfl rfl rfl rfl ?_
  refine mj_T.iadd rfl ?_
  refine mj_T.ret rfl rfl rfl ?_
  rw [show ((p * 13 + i : Nat) : Int) = (p : Int) * 13 + (i : Int) by omega]
/-! Of the reference and of numbers (as in p1, part 78l). -/
abbrev jX (h : mj_H) (b : Nat) (bg : Nat → Int32) : mj_H := h.set b (.inl (0, 466830, fun j => .int (bg j)))
abbrev jC (h : mj_H) (a b : Nat) (fs : List Value) : Prop := h[a]? = some (.inr (10, fs)) ∧ fs[4]? = some (.ref b) ∧ a ≠ b ∧ b < h.length
section JX
variable {h : mj_H} {a b : Nat} {fs : List Value} {bg bg' : Nat → Int32}
theorem jX_a (C : jC h a b fs) : (jX h b bg)[a]? = some (.inr (10, fs)) := by
  rw [List.getElem?_set_ne (Ne.symm C.2.2.1)]
  exact C.1
theorem jX_b (C : jC h a b fs) : (jX h b bg)[b]? = some (.inl (0, 466830, fun j => .int (bg j))) := List.getElem?_set_self C.2.2.2
theorem jX_set : (jX h b bg).set b (.inl (0, 466830, fun j => .int (bg' j))) = jX h b bg' := by rw [List.set_set]
theorem jX_len : (jX h b bg).length = h.length := List.length_set
theorem jX_same (hb : h[b]? = some (.inl (0, 466830, fun j => .int (bg j)))) : jX h b bg = h := by
  have hl := (List.getElem?_eq_some_iff.mp hb).1
  apply List.ext_getElem?
  intro q
  by_cases e : q = b
  · subst e
    rw [List.getElem?_set_self hl, hb]
  · rw [List.getElem?_set_ne (Ne.symm e)]
end JX
section JXR
variable {D pc : Nat} {M : mj_M} {loc : mj_L} {st : List Value} {h : mj_H} {a b : Nat} {fs : List Value} {bg : Nat → Int32} {Q : mj_R → Prop} {n r1 r2 r3 r4 r5 : Nat}
theorem mj_T.gb (C : jC h a b fs) (hc : M.2.2.2.2.1 pc = some (.getfield n, 10, 4, r3, r4, r5)) (k : mj_T D M (pc + 3) loc (.ref b :: st) (jX h b bg) Q) : mj_T D M pc loc (.ref a :: st) (jX h b bg) Q :=
  mj_T.step hc rfl (by simp only [mj_step, jX_a C, C.2.1, if_true]) k
theorem mj_T.xld {i z : Int} (C : jC h a b fs) (hc : M.2.2.2.2.1 pc = some (.iaload, r1, r2, r3, r4, r5)) (hi : jr i) (h0 : 0 ≤ i ∧ i < 466830) (hv : bg i.toNat = jn z) (k : mj_T D M (pc + 1) loc (.int (jn z) :: st) (jX h b bg) Q) : mj_T D M pc loc (.int (jn i) :: .ref b :: st) (jX h b bg) Q :=
  mj_T.ialv hc (jX_b C) hi h0 hv k
theorem mj_T.xst {i : Int} {x : Int32} (C : jC h a b fs) (hc : M.2.2.2.2.1 pc = some (.iastore, r1, r2, r3, r4, r5)) (hi : jr i) (h0 : 0 ≤ i ∧ i < 466830) (k : mj_T D M (pc + 1) loc st (jX h b (upd bg i.toNat x)) Q) : mj_T D M pc loc (.int x :: .int (jn i) :: .ref b :: st) (jX h b bg) Q :=
  mj_T.iast hc (jX_b C) hi h0 (by rw [jX_set]; exact k)
end JXR
/-! Of the reference and of numbers (as in p1, part 78m). -/
theorem jq_sets_loop {D s x : Nat} {v : Int} {hp : mj_H} {q0 q1 : Nat} {fs : List Value} {bg0 : Nat → Int32} (C : jC hp q0 q1 fs) (hs : s < 665) (hx : x < 1000000000000000000000000000) (hx2 : x ≤ 9223372036854775808) {Q : mj_R → Prop}
    (hend : ∀ bg : Nat → Int32, bg (s * 702) = bg0 (s * 702) → bg (s * 702 + 1) = jn (jnl x) → (∀ j, j < jnl x → bg (s * 702 + 2 + j) = jn (jlb x j)) → (∀ j, (j < s * 702 ∨ s * 702 + 702 ≤ j) → bg j = bg0 j) → Q (.inl none, jX hp q1 bg)) :
    ∀ (d i : Nat) (bg : Nat → Int32), i + d = jnl x → bg (s * 702) = bg0 (s * 702) → (∀ j, j < i → bg (s * 702 + 2 + j) = jn (jlb x j)) → (∀ j, (j < s * 702 ∨ s * 702 + 702 ≤ j) → bg j = bg0 j) →
      mj_T D mj_m181 52 [some (.ref q0), some (.int (jn s)), some (.long (jl v)), none, some (.int (jn (s * 702 : Nat))), some (.int (jn i)), some (.long (jl (-(x / jB ^ i : Nat)))), none] [] (jX hp q1 bg) Q := by
  have hnl : jnl x ≤ 3 := jnl_le_lt.mpr (by rw [show jB ^ 3 = 1000000000000000000000000000 from rfl]; exact hx)
  intro d
  induction d with
  | zero =>
    intro i bg hid h1 h2 h3
    have ei : i = jnl x := by omega
    subst ei
    have e0 := jnl_le.mp (Nat.le_refl (jnl x))
    iterate 2 (first | refine mj_T.gb C rfl ?_ | refine mj_T.pl rfl rfl rfl rfl ?_)
    refine mj_T.lif (b := 0) rfl rfl ⟨by omega, by omega⟩ ⟨by omega, by omega⟩ (fun hc => ?_) (fun hc => ?_)
    · iterate 3 (first | refine mj_T.gb C rfl ?_ | refine mj_T.pl rfl rfl rfl rfl ?_)
      (first | refine mj_T.gb C rfl ?_ | refine mj_T.pl rfl rfl rfl rfl ?_)
      refine mj_T.iadd (b := 1) rfl ?_
      rw [show ((s * 702 : Nat) : Int) + 1 = ((s * 702 + 1 : Nat) : Int) by omega]
      (first | refine mj_T.gb C rfl ?_ | refine mj_T.pl rfl rfl rfl rfl ?_)
      refine mj_T.xst C rfl ⟨by omega, by omega⟩ ⟨by omega, by omega⟩ ?_
      refine mj_T.ret rfl rfl rfl (hend (upd bg (s * 702 + 1) (jn (jnl x))) ?_ ?_ (fun j hj => ?_) (fun j hj => ?_))
      · unfold upd; rw [if_neg (by omega)]; exact h1
      · unfold upd; rw [if_pos rfl]
      · unfold upd; rw [if_neg (by omega)]; exact h2 j hj
      · unfold upd; rw [if_neg (by omega)]; exact h3 j hj
    · simp only [jc, decide_eq_false_iff_not] at hc; omega
  | succ d ih =>
    intro i bg hid h1 h2 h3
    have hne := jnl_lt.mp (show i < jnl x by omega)
    have hle := Nat.div_le_self x (jB ^ i)
    have hlt := jlb_lt x i
    have hlim : x / jB ^ i % 1000000000 = jlb x i := rfl
    have hdiv : x / jB ^ i / 1000000000 = x / jB ^ (i + 1) := by rw [Nat.div_div_eq_div_mul, Nat.pow_succ]
    generalize hy : x / jB ^ i = y at *
    iterate 2 (first | refine mj_T.gb C rfl ?_ | refine mj_T.pl rfl rfl rfl rfl ?_)
    refine mj_T.lif (b := 0) rfl rfl ⟨by omega, by omega⟩ ⟨by omega, by omega⟩ (fun hc => ?_) (fun hc => ?_)
    · simp only [jc, decide_eq_true_eq] at hc; omega
    · iterate 4 (first | refine mj_T.gb C rfl ?_ | refine mj_T.pl rfl rfl rfl rfl ?_)
      refine mj_T.iadd (b := 2) rfl ?_
      (first | refine mj_T.gb C rfl ?_ | refine mj_T.pl rfl rfl rfl rfl ?_)
      refine mj_T.iadd rfl ?_
      rw [show ((s * 702 : Nat) : Int) + 2 + (i : Int) = ((s * 702 + 2 + i : Nat) : Int) by omega]
      iterate 2 (first | refine mj_T.gb C rfl ?_ | refine mj_T.pl rfl rfl rfl rfl ?_)
      refine mj_T.lrem (b := 1000000000) rfl ⟨by omega, by omega⟩ ⟨by omega, by omega⟩ (by omega) ?_
      refine mj_T.lneg rfl ?_
      rw [show -(-((y : Nat) : Int)).tmod 1000000000 = ((jlb x i : Nat) : Int) by rw [Int.neg_tmod, Int.neg_neg, ← hlim]; rfl]
      refine mj_T.l2i rfl ?_
      refine mj_T.xst C rfl ⟨by omega, by omega⟩ ⟨by omega, by omega⟩ ?_
      refine mj_T.iinc (a := i) rfl rfl ?_
      iterate 2 (first | refine mj_T.gb C rfl ?_ | refine mj_T.pl rfl rfl rfl rfl ?_)
      refine mj_T.ldiv (b := 1000000000) rfl ⟨by omega, by omega⟩ ⟨by omega, by omega⟩ (by omega) ?_
      rw [show (-((y : Nat) : Int)).tdiv 1000000000 = -((x / jB ^ (i + 1) : Nat) : Int) by rw [Int.neg_tdiv, ← hdiv]; rfl]
      iterate 2 (first | refine mj_T.gb C rfl ?_ | refine mj_T.pl rfl rfl rfl rfl ?_)
      refine ih (i + 1) (upd bg (s * 702 + 2 + i) (jn (jlb x i))) (by omega) ?_ (fun j hj => ?_) (fun j hj => ?_)
      · unfold upd; rw [if_neg (by omega)]; exact h1
      · unfold upd
        by_cases h : j = i
        · subst h; rw [if_pos rfl]
        · rw [if_neg (by omega)]; exact h2 j (by omega)
      · unfold upd; rw [if_neg (by omega)]; exact h3 j hj
theorem jq_sets {D s : Nat} {v : Int} {hp : mj_H} {q0 q1 : Nat} {fs : List Value} {bg : Nat → Int32} (C : jC hp q0 q1 fs) (hs : s < 665) (hv : jR v) :
    mj_Ok (D + 1) 181 [.ref q0, .int (jn s), .long (jl v)] (jX hp q1 bg) (fun r => ∃ bg' : Nat → Int32, jrs bg' s v ∧ jrf bg bg' s ∧ r = (.inl none, jX hp q1 bg')) := by
  have hx2 : v.natAbs ≤ 9223372036854775808 := by have := hv.1; have := hv.2; omega
  have hnl : jnl v.natAbs ≤ 3 := jnl_le_lt.mpr (by rw [show jB ^ 3 = 1000000000000000000000000000 from rfl]; omega)
  refine mj_Ok.of (M := mj_m181) rfl rfl rfl ?_
  iterate 2 (first | refine mj_T.gb C rfl ?_ | refine mj_T.pl rfl rfl rfl rfl ?_)
  refine mj_T.imul (b := 702) rfl ?_
  rw [show (s : Int) * 702 = ((s * 702 : Nat) : Int) by omega]
  have k50 : ∀ (w : Int) (bg1 : Nat → Int32), w = -((v.natAbs : Nat) : Int) → bg1 = upd bg (s * 702) (jn (jsg v)) → mj_T D mj_m181 50 [some (.ref q0), some (.int (jn s)), some (.long (jl v)), none, some (.int (jn (s * 702 : Nat))), some (.int (jn 0)), none, none] [.long (jl w)] (jX hp q1 bg1)
      (fun r => ∃ bg' : Nat → Int32, jrs bg' s v ∧ jrf bg bg' s ∧ r = (.inl none, jX hp q1 bg')) := by
    intro w bg1 hw hb
    subst hw
    subst hb
    (first | refine mj_T.gb C rfl ?_ | refine mj_T.pl rfl rfl rfl rfl ?_)
    refine mj_T.eq (jq_sets_loop C (x := v.natAbs) (v := v) (bg0 := upd bg (s * 702) (jn (jsg v))) hs (by omega) hx2 (fun bg' h1 h2 h3 h4 => ⟨bg', ⟨?_, h2, h3, by omega⟩, fun j hj => ?_, rfl⟩) (jnl v.natAbs) 0 _ (by omega) rfl (fun j hj => by omega) (fun j _ => rfl)) rfl ?_ rfl rfl
    · rw [Nat.pow_zero, Nat.div_one]; rfl
    · rw [h1]; exact if_pos rfl
    · rw [h4 j hj]; exact if_neg (by omega)
  have k34 : ∀ z : Int, z = jsg v → mj_T D mj_m181 34 [some (.ref q0), some (.int (jn s)), some (.long (jl v)), none, some (.int (jn (s * 702 : Nat))), none, none, none] [.int (jn z), .int (jn (s * 702 : Nat)), .ref q1] (jX hp q1 bg)
      (fun r => ∃ bg' : Nat → Int32, jrs bg' s v ∧ jrf bg bg' s ∧ r = (.inl none, jX hp q1 bg')) := by
    intro z hz
    subst hz
    refine mj_T.xst C rfl ⟨by omega, by omega⟩ ⟨by omega, by omega⟩ ?_
    iterate 4 (first | refine mj_T.gb C rfl ?_ | refine mj_T.pl rfl rfl rfl rfl ?_)
    refine mj_T.lif (b := 0) rfl rfl hv ⟨by omega, by omega⟩ (fun hc => ?_) (fun hc => ?_)
    · simp only [jc, decide_eq_true_eq] at hc
      (first | refine mj_T.gb C rfl ?_ | refine mj_T.pl rfl rfl rfl rfl ?_)
      exact k50 v _ (by omega) rfl
    · simp only [jc, decide_eq_false_iff_not] at hc
      (first | refine mj_T.gb C rfl ?_ | refine mj_T.pl rfl rfl rfl rfl ?_)
      refine mj_T.lneg rfl ?_
      (first | refine mj_T.gb C rfl ?_ | refine mj_T.pl rfl rfl rfl rfl ?_)
      exact k50 (-v) _ (by omega) rfl
  iterate 6 (first | refine mj_T.gb C rfl ?_ | refine mj_T.pl rfl rfl rfl rfl ?_)
  refine mj_T.lif (b := 0) rfl rfl hv ⟨by omega, by omega⟩ (fun hc => ?_) (fun hc => ?_)
  · simp only [jc, decide_eq_true_eq] at hc
    iterate 2 (first | refine mj_T.gb C rfl ?_ | refine mj_T.pl rfl rfl rfl rfl ?_)
    refine mj_T.lif (b := 0) rfl rfl hv ⟨by omega, by omega⟩ (fun hc2 => ?_) (fun hc2 => ?_)
    · simp only [jc, decide_eq_true_eq] at hc2
      (first | refine mj_T.gb C rfl ?_ | refine mj_T.pl rfl rfl rfl rfl ?_)
      exact k34 0 (by unfold jsg; rw [if_neg (by omega), if_neg (by omega)])
    · simp only [jc, decide_eq_false_iff_not] at hc2
      iterate 2 (first | refine mj_T.gb C rfl ?_ | refine mj_T.pl rfl rfl rfl rfl ?_)
      exact k34 (-1) (jsg_neg (by omega)).symm
  · simp only [jc, decide_eq_false_iff_not] at hc
    iterate 2 (first | refine mj_T.gb C rfl ?_ | refine mj_T.pl rfl rfl rfl rfl ?_)
    exact k34 1 (jsg_pos (by omega)).symm
section MJR2
variable {D : Nat} {hp : mj_H} {q0 q1 : Nat} {fs : List Value} {bg : Nat → Int32}
theorem jq_trims_loop (C : jC hp q0 q1 fs) {s n x : Nat} {g0 : Int} (hs : s < 665) (hn : n ≤ 700) (hx : jnl x ≤ n) (hsg : bg (s * 702) = jn g0) (hl : ∀ j, j < n → bg (s * 702 + 2 + j) = jn (jlb x j)) {Q : mj_R → Prop}
    (hend : ∀ bg' : Nat → Int32, bg' (s * 702) = jn (if x = 0 then 0 else g0) → bg' (s * 702 + 1) = jn (jnl x) → (∀ j, j < n → bg' (s * 702 + 2 + j) = jn (jlb x j)) → jrf bg bg' s → Q (.inl none, jX hp q1 bg')) :
    ∀ (d k : Nat), k = jnl x + d → k ≤ n →
      mj_T D mj_m183 2 [some (.ref q0), some (.int (jn s)), some (.int (jn n)), some (.int (jn k))] [] (jX hp q1 bg) Q := by
  have fin : mj_T D mj_m183 29 [some (.ref q0), some (.int (jn s)), some (.int (jn n)), some (.int (jn (jnl x)))] [] (jX hp q1 bg) Q := by
    iterate 4 (first | refine mj_T.gb C rfl ?_ | refine mj_T.pl rfl rfl rfl rfl ?_)
    refine mj_T.imul (b := 702) rfl ?_
    (first | refine mj_T.gb C rfl ?_ | refine mj_T.pl rfl rfl rfl rfl ?_)
    refine mj_T.iadd (b := 1) rfl ?_
    rw [show (s : Int) * 702 + 1 = ((s * 702 + 1 : Nat) : Int) by omega]
    (first | refine mj_T.gb C rfl ?_ | refine mj_T.pl rfl rfl rfl rfl ?_)
    refine mj_T.xst C rfl ⟨by omega, by omega⟩ ⟨by omega, by omega⟩ ?_
    (first | refine mj_T.gb C rfl ?_ | refine mj_T.pl rfl rfl rfl rfl ?_)
    refine mj_T.if0 rfl ⟨by omega, by omega⟩ (fun hc => ?_) (fun hc => ?_)
    · simp only [jc, Bool.not_eq_true', decide_eq_false_iff_not] at hc
      have h0 : x ≠ 0 := fun q => hc (by rw [q]; exact congrArg Int.ofNat jnl_zero)
      rw [if_neg h0] at hend
      refine mj_T.ret rfl rfl rfl (hend (upd bg (s * 702 + 1) (jn (jnl x))) ?_ ?_ (fun j hj => ?_) (fun j hj => ?_))
      · unfold upd; rw [if_neg (by omega)]; exact hsg
      · unfold upd; exact if_pos rfl
      · unfold upd; rw [if_neg (by omega)]; exact hl j hj
      · unfold upd; exact if_neg (by omega)
    · simp only [jc, Bool.not_eq_false', decide_eq_true_eq] at hc
      have h0 : x = 0 := jnl_eq0.mp (by omega)
      rw [if_pos h0] at hend
      iterate 4 (first | refine mj_T.gb C rfl ?_ | refine mj_T.pl rfl rfl rfl rfl ?_)
      refine mj_T.imul (b := 702) rfl ?_
      rw [show (s : Int) * 702 = ((s * 702 : Nat) : Int) by omega]
      (first | refine mj_T.gb C rfl ?_ | refine mj_T.pl rfl rfl rfl rfl ?_)
      refine mj_T.xst C rfl ⟨by omega, by omega⟩ ⟨by omega, by omega⟩ ?_
      refine mj_T.ret rfl rfl rfl (hend (upd (upd bg (s * 702 + 1) (jn (jnl x))) (s * 702) (jn 0)) ?_ ?_ (fun j hj => ?_) (fun j hj => ?_))
      · unfold upd; exact if_pos rfl
      · unfold upd; rw [if_neg (by omega)]; exact if_pos rfl
      · unfold upd; rw [if_neg (by omega), if_neg (by omega)]; exact hl j hj
      · unfold upd; rw [if_neg (by omega)]; exact if_neg (by omega)
  intro d
  induction d with
  | zero =>
    intro k hk hkn
    have ek : k = jnl x := by omega
    subst ek
    (first | refine mj_T.gb C rfl ?_ | refine mj_T.pl rfl rfl rfl rfl ?_)
    refine mj_T.if0 rfl ⟨by omega, by omega⟩ (fun hc => fin) (fun hc => ?_)
    simp only [jc, decide_eq_false_iff_not] at hc
    obtain ⟨p, hp⟩ : ∃ p, jnl x = p + 1 := ⟨jnl x - 1, by omega⟩
    have htop := jlb_top hp.symm
    have hlt := jlb_lt x p
    iterate 4 (first | refine mj_T.gb C rfl ?_ | refine mj_T.pl rfl rfl rfl rfl ?_)
    refine mj_T.imul (b := 702) rfl ?_
    (first | refine mj_T.gb C rfl ?_ | refine mj_T.pl rfl rfl rfl rfl ?_)
    refine mj_T.iadd (b := 1) rfl ?_
    (first | refine mj_T.gb C rfl ?_ | refine mj_T.pl rfl rfl rfl rfl ?_)
    refine mj_T.iadd rfl ?_
    rw [show (s : Int) * 702 + 1 + ((jnl x : Nat) : Int) = ((s * 702 + 2 + p : Nat) : Int) by omega]
    refine mj_T.xld C rfl ⟨by omega, by omega⟩ ⟨by omega, by omega⟩ (hl p (by omega)) ?_
    refine mj_T.if0 rfl ⟨by omega, by omega⟩ (fun hc2 => fin) (fun hc2 => ?_)
    simp only [jc, Bool.not_eq_false', decide_eq_true_eq] at hc2
    omega
  | succ d ih =>
    intro k hk hkn
    have hz : jlb x (k - 1) = 0 := jlb_high (by omega)
    (first | refine mj_T.gb C rfl ?_ | refine mj_T.pl rfl rfl rfl rfl ?_)
    refine mj_T.if0 rfl ⟨by omega, by omega⟩ (fun hc => ?_) (fun hc => ?_)
    · simp only [jc, decide_eq_true_eq] at hc; omega
    iterate 4 (first | refine mj_T.gb C rfl ?_ | refine mj_T.pl rfl rfl rfl rfl ?_)
    refine mj_T.imul (b := 702) rfl ?_
    (first | refine mj_T.gb C rfl ?_ | refine mj_T.pl rfl rfl rfl rfl ?_)
    refine mj_T.iadd (b := 1) rfl ?_
    (first | refine mj_T.gb C rfl ?_ | refine mj_T.pl rfl rfl rfl rfl ?_)
    refine mj_T.iadd rfl ?_
    rw [show (s : Int) * 702 + 1 + (k : Int) = ((s * 702 + 2 + (k - 1) : Nat) : Int) by omega]
    refine mj_T.xld C rfl ⟨by omega, by omega⟩ ⟨by omega, by omega⟩ (hl (k - 1) (by omega)) ?_
    refine mj_T.if0 rfl ⟨by omega, by omega⟩ (fun hc2 => ?_) (fun hc2 => ?_)
    · simp only [jc, Bool.not_eq_true', decide_eq_false_iff_not] at hc2
      omega
    · refine mj_T.iinc (a := k) rfl rfl ?_
      (first | refine mj_T.gb C rfl ?_ | refine mj_T.pl rfl rfl rfl rfl ?_)
      rw [show (k : Int) + -1 = ((k - 1 : Nat) : Int) by omega]
      exact ih (k - 1) (by omega) (by omega)
theorem jq_trims (C : jC hp q0 q1 fs) {s n x : Nat} {g0 : Int} (hs : s < 665) (hn : n ≤ 700) (hx : jnl x ≤ n) (hsg : bg (s * 702) = jn g0) (hl : ∀ j, j < n → bg (s * 702 + 2 + j) = jn (jlb x j)) :
    mj_Ok (D + 1) 183 [.ref q0, .int (jn s), .int (jn n)] (jX hp q1 bg) (fun r => ∃ bg' : Nat → Int32, bg' (s * 702) = jn (if x = 0 then 0 else g0) ∧ bg' (s * 702 + 1) = jn (jnl x) ∧ (∀ j, j < n → bg' (s * 702 + 2 + j) = jn (jlb x j)) ∧ jrf bg bg' s ∧ r = (.inl none, jX hp q1 bg')) := by
  refine mj_Ok.of (M := mj_m183) rfl rfl rfl ?_
  iterate 2 (first | refine mj_T.gb C rfl ?_ | refine mj_T.pl rfl rfl rfl rfl ?_)
  exact jq_trims_loop C (x := x) (g0 := g0) hs hn hx hsg hl (fun bg' h1 h2 h3 h4 => ⟨bg', h1, h2, h3, h4, rfl⟩) (n - jnl x) n (by omega) (Nat.le_refl n)
end MJR2
section MJR3
variable {D : Nat} {hp : mj_H} {q0 q1 : Nat} {fs : List Value}
theorem jq_adds_loop (C : jC hp q0 q1 fs) {to a b x y : Nat} {bg0 : Nat → Int32} {sg : Int} (hto : to < 665) (ha : a < 665) (hb : b < 665) (hx : jnl x ≤ 699) (hy : jnl y ≤ 699) (h1 : ∀ j, j < jnl x → bg0 (a * 702 + 2 + j) = jn (jlb x j)) (h2 : ∀ j, j < jnl y → bg0 (b * 702 + 2 + j) = jn (jlb y j)) {Q : mj_R → Prop}
    (hend : ∀ (bg : Nat → Int32) (l10 : Option Value), (∀ j, j < max (jnl x) (jnl y) → bg (to * 702 + 2 + j) = jn (jlb (x + y) j)) → (∀ q, (∀ j, j < max (jnl x) (jnl y) → q ≠ to * 702 + 2 + j) → bg q = bg0 q) → mj_T D mj_m186 143 [some (.ref q0), some (.int (jn to)), some (.int (jn a)), some (.int (jn b)), some (.int (jn sg)), some (.int (jn (max (jnl x) (jnl y) : Nat))), some (.int (jn (jcy x y (max (jnl x) (jnl y))))), some (.int (jn (jnl x))), some (.int (jn (jnl y))), some (.int (jn (max (jnl x) (jnl y) : Nat))), l10] [] (jX hp q1 bg) Q) :
    ∀ (d k : Nat) (bg : Nat → Int32) (l10 : Option Value), k + d = max (jnl x) (jnl y) → (∀ j, j < k → bg (to * 702 + 2 + j) = jn (jlb (x + y) j)) → (∀ q, (∀ j, j < k → q ≠ to * 702 + 2 + j) → bg q = bg0 q) →
      mj_T D mj_m186 35 [some (.ref q0), some (.int (jn to)), some (.int (jn a)), some (.int (jn b)), some (.int (jn sg)), some (.int (jn (max (jnl x) (jnl y) : Nat))), some (.int (jn (jcy x y k))), some (.int (jn (jnl x))), some (.int (jn (jnl y))), some (.int (jn k)), l10] [] (jX hp q1 bg) Q := by
  intro d
  induction d with
  | zero =>
    intro k bg l10 hk g1 g2
    have ek : k = max (jnl x) (jnl y) := by omega
    subst ek
    iterate 2 (first | refine mj_T.gb C rfl ?_ | refine mj_T.pl rfl rfl rfl rfl ?_)
    refine mj_T.icmp rfl ⟨by omega, by omega⟩ ⟨by omega, by omega⟩ (fun hc => ?_) (fun hc => ?_)
    · exact hend bg l10 g1 g2
    · simp only [jc, decide_eq_false_iff_not] at hc; omega
  | succ d ih =>
    intro k bg l10 hk g1 g2
    have hcx := jcy_le x y k
    have hcx2 := jcy_le x y (k + 1)
    have hu1 := jlb_lt x k
    have hv1 := jlb_lt y k
    have hz1 := jlb_lt (x + y) k
    have hlim : jlb (x + y) k = (jlb x k + jlb y k + jcy x y k) % 1000000000 := jcy_limb x y k
    have hnx : jcy x y (k + 1) = (jlb x k + jlb y k + jcy x y k) / 1000000000 := jcy_next x y k
    iterate 2 (first | refine mj_T.gb C rfl ?_ | refine mj_T.pl rfl rfl rfl rfl ?_)
    refine mj_T.icmp rfl ⟨by omega, by omega⟩ ⟨by omega, by omega⟩ (fun hc => ?_) (fun hc => ?_)
    · simp only [jc, decide_eq_true_eq] at hc; omega
    clear hc
    have k112 : ∀ z s : Int, z = (jcy x y (k + 1) : Nat) → s = (jlb x k + jlb y k + jcy x y k : Nat) → mj_T D mj_m186 112 [some (.ref q0), some (.int (jn to)), some (.int (jn a)), some (.int (jn b)), some (.int (jn sg)), some (.int (jn (max (jnl x) (jnl y) : Nat))), some (.int (jn (jcy x y k))), some (.int (jn (jnl x))), some (.int (jn (jnl y))), some (.int (jn k)), some (.int (jn s))] [.int (jn z)] (jX hp q1 bg) Q := by
      intro z s hz hs
      subst hz
      iterate 5 (first | refine mj_T.gb C rfl ?_ | refine mj_T.pl rfl rfl rfl rfl ?_)
      refine mj_T.imul (b := 702) rfl ?_
      (first | refine mj_T.gb C rfl ?_ | refine mj_T.pl rfl rfl rfl rfl ?_)
      refine mj_T.iadd (b := 2) rfl ?_
      (first | refine mj_T.gb C rfl ?_ | refine mj_T.pl rfl rfl rfl rfl ?_)
      refine mj_T.iadd rfl ?_
      rw [show (to : Int) * 702 + 2 + (k : Int) = ((to * 702 + 2 + k : Nat) : Int) by omega]
      iterate 3 (first | refine mj_T.gb C rfl ?_ | refine mj_T.pl rfl rfl rfl rfl ?_)
      refine mj_T.imul (b := 1000000000) rfl ?_
      refine mj_T.isub rfl ?_
      rw [show s - ((jcy x y (k + 1) : Nat) : Int) * 1000000000 = ((jlb (x + y) k : Nat) : Int) by omega]
      refine mj_T.xst C rfl ⟨by omega, by omega⟩ ⟨by omega, by omega⟩ ?_
      refine mj_T.iinc (a := k) rfl rfl ?_
      (first | refine mj_T.gb C rfl ?_ | refine mj_T.pl rfl rfl rfl rfl ?_)
      refine ih (k + 1) (upd bg (to * 702 + 2 + k) (jn (jlb (x + y) k))) _ (by omega) (fun j hj => ?_) (fun q hq => ?_)
      · unfold upd
        by_cases h : j = k
        · subst h; rw [if_pos rfl]
        · rw [if_neg (by omega)]; exact g1 j (by omega)
      · unfold upd
        rw [if_neg (hq k (by omega))]
        exact g2 q (fun j hj => hq j (by omega))
    have k94 : ∀ u w : Int, u = (jlb x k : Nat) → w = (jlb y k : Nat) → mj_T D mj_m186 94 [some (.ref q0), some (.int (jn to)), some (.int (jn a)), some (.int (jn b)), some (.int (jn sg)), some (.int (jn (max (jnl x) (jnl y) : Nat))), some (.int (jn (jcy x y k))), some (.int (jn (jnl x))), some (.int (jn (jnl y))), some (.int (jn k)), l10] [.int (jn w), .int (jn u)] (jX hp q1 bg) Q := by
      intro u w hu hw
      refine mj_T.iadd rfl ?_
      (first | refine mj_T.gb C rfl ?_ | refine mj_T.pl rfl rfl rfl rfl ?_)
      refine mj_T.iadd rfl ?_
      iterate 3 (first | refine mj_T.gb C rfl ?_ | refine mj_T.pl rfl rfl rfl rfl ?_)
      refine mj_T.icmp (b := 1000000000) rfl ⟨by omega, by omega⟩ ⟨by omega, by omega⟩ (fun hc => ?_) (fun hc => ?_)
      · simp only [jc, decide_eq_true_eq] at hc
        (first | refine mj_T.gb C rfl ?_ | refine mj_T.pl rfl rfl rfl rfl ?_)
        exact k112 0 _ (by omega) (by omega)
      · simp only [jc, decide_eq_false_iff_not] at hc
        iterate 2 (first | refine mj_T.gb C rfl ?_ | refine mj_T.pl rfl rfl rfl rfl ?_)
        exact k112 1 _ (by omega) (by omega)
    have k68 : ∀ u : Int, u = (jlb x k : Nat) → mj_T D mj_m186 68 [some (.ref q0), some (.int (jn to)), some (.int (jn a)), some (.int (jn b)), some (.int (jn sg)), some (.int (jn (max (jnl x) (jnl y) : Nat))), some (.int (jn (jcy x y k))), some (.int (jn (jnl x))), some (.int (jn (jnl y))), some (.int (jn k)), l10] [.int (jn u)] (jX hp q1 bg) Q := by
      intro u hu
      iterate 2 (first | refine mj_T.gb C rfl ?_ | refine mj_T.pl rfl rfl rfl rfl ?_)
      refine mj_T.icmp rfl ⟨by omega, by omega⟩ ⟨by omega, by omega⟩ (fun hc => ?_) (fun hc => ?_)
      · simp only [jc, decide_eq_true_eq] at hc
        (first | refine mj_T.gb C rfl ?_ | refine mj_T.pl rfl rfl rfl rfl ?_)
        exact k94 u 0 hu (by rw [jlb_high (show jnl y ≤ k by omega)]; rfl)
      · simp only [jc, decide_eq_false_iff_not] at hc
        iterate 4 (first | refine mj_T.gb C rfl ?_ | refine mj_T.pl rfl rfl rfl rfl ?_)
        refine mj_T.imul (b := 702) rfl ?_
        (first | refine mj_T.gb C rfl ?_ | refine mj_T.pl rfl rfl rfl rfl ?_)
        refine mj_T.iadd (b := 2) rfl ?_
        (first | refine mj_T.gb C rfl ?_ | refine mj_T.pl rfl rfl rfl rfl ?_)
        refine mj_T.iadd rfl ?_
        rw [show (b : Int) * 702 + 2 + (k : Int) = ((b * 702 + 2 + k : Nat) : Int) by omega]
        refine mj_T.xld C rfl ⟨by omega, by omega⟩ ⟨by omega, by omega⟩ ((g2 (b * 702 + 2 + k) (fun j hj => by omega)).trans (h2 k (by omega))) ?_
        (first | refine mj_T.gb C rfl ?_ | refine mj_T.pl rfl rfl rfl rfl ?_)
        exact k94 u _ hu rfl
    iterate 2 (first | refine mj_T.gb C rfl ?_ | refine mj_T.pl rfl rfl rfl rfl ?_)
    refine mj_T.icmp rfl ⟨by omega, by omega⟩ ⟨by omega, by omega⟩ (fun hc => ?_) (fun hc => ?_)
    · simp only [jc, decide_eq_true_eq] at hc
      (first | refine mj_T.gb C rfl ?_ | refine mj_T.pl rfl rfl rfl rfl ?_)
      exact k68 0 (by rw [jlb_high (show jnl x ≤ k by omega)]; rfl)
    · simp only [jc, decide_eq_false_iff_not] at hc
      iterate 4 (first | refine mj_T.gb C rfl ?_ | refine mj_T.pl rfl rfl rfl rfl ?_)
      refine mj_T.imul (b := 702) rfl ?_
      (first | refine mj_T.gb C rfl ?_ | refine mj_T.pl rfl rfl rfl rfl ?_)
      refine mj_T.iadd (b := 2) rfl ?_
      (first | refine mj_T.gb C rfl ?_ | refine mj_T.pl rfl rfl rfl rfl ?_)
      refine mj_T.iadd rfl ?_
      rw [show (a : Int) * 702 + 2 + (k : Int) = ((a * 702 + 2 + k : Nat) : Int) by omega]
      refine mj_T.xld C rfl ⟨by omega, by omega⟩ ⟨by omega, by omega⟩ ((g2 (a * 702 + 2 + k) (fun j hj => by omega)).trans (h1 k (by omega))) ?_
      (first | refine mj_T.gb C rfl ?_ | refine mj_T.pl rfl rfl rfl rfl ?_)
      exact k68 _ rfl
end MJR3
theorem jq_addsSizes {D to a b : Nat} {u v : Int} {sg : Int} {hp : mj_H} {q0 q1 : Nat} {fs : List Value} {bg : Nat → Int32} (C : jC hp q0 q1 fs) (hto : to < 665) (ha : a < 665) (hb : b < 665) (hu : jrs bg a u) (hv : jrs bg b v) (hx : jnl u.natAbs ≤ 698) (hy : jnl v.natAbs ≤ 698) :
    mj_Ok (D + 2) 186 [.ref q0, .int (jn to), .int (jn a), .int (jn b), .int (jn sg)] (jX hp q1 bg) (fun r => ∃ bg' : Nat → Int32, bg' (to * 702) = jn (if u.natAbs + v.natAbs = 0 then 0 else sg) ∧ bg' (to * 702 + 1) = jn (jnl (u.natAbs + v.natAbs)) ∧ (∀ j, j < jnl (u.natAbs + v.natAbs) → bg' (to * 702 + 2 + j) = jn (jlb (u.natAbs + v.natAbs) j)) ∧ jrf bg bg' to ∧ r = (.inl none, jX hp q1 bg')) := by
  refine mj_Ok.of (M := mj_m186) rfl rfl rfl ?_
  iterate 2 (first | refine mj_T.gb C rfl ?_ | refine mj_T.pl rfl rfl rfl rfl ?_)
  refine mj_T.call (ins := .invokevirtual 52) rfl rfl (Nat.le_of_ble_eq_true rfl) (Nat.le_of_ble_eq_true rfl) (by simp [mj_recv, jX_a C]) rfl (jq_length (D := D) (jX_a C) C.2.1 (jX_b C) ha hu) (fun v' h' hq' => ?_) (fun i h' hq' => by cases hq')
  cases hq'
  iterate 2 (first | refine mj_T.gb C rfl ?_ | refine mj_T.pl rfl rfl rfl rfl ?_)
  refine mj_T.call (ins := .invokevirtual 52) rfl rfl (Nat.le_of_ble_eq_true rfl) (Nat.le_of_ble_eq_true rfl) (by simp [mj_recv, jX_a C]) rfl (jq_length (D := D) (jX_a C) C.2.1 (jX_b C) hb hv) (fun v' h' hq' => ?_) (fun i h' hq' => by cases hq')
  cases hq'
  refine mj_T.imax (a := (jnl u.natAbs : Nat)) (b := (jnl v.natAbs : Nat)) rfl rfl (Nat.le_of_ble_eq_true rfl) ⟨by omega, by omega⟩ ⟨by omega, by omega⟩ ?_
  rw [show max ((jnl u.natAbs : Nat) : Int) ((jnl v.natAbs : Nat) : Int) = ((max (jnl u.natAbs) (jnl v.natAbs) : Nat) : Int) by omega]
  iterate 5 (first | refine mj_T.gb C rfl ?_ | refine mj_T.pl rfl rfl rfl rfl ?_)
  refine mj_T.call (ins := .invokevirtual 52) rfl rfl (Nat.le_of_ble_eq_true rfl) (Nat.le_of_ble_eq_true rfl) (by simp [mj_recv, jX_a C]) rfl (jq_length (D := D) (jX_a C) C.2.1 (jX_b C) ha hu) (fun v' h' hq' => ?_) (fun i h' hq' => by cases hq')
  cases hq'
  iterate 3 (first | refine mj_T.gb C rfl ?_ | refine mj_T.pl rfl rfl rfl rfl ?_)
  refine mj_T.call (ins := .invokevirtual 52) rfl rfl (Nat.le_of_ble_eq_true rfl) (Nat.le_of_ble_eq_true rfl) (by simp [mj_recv, jX_a C]) rfl (jq_length (D := D) (jX_a C) C.2.1 (jX_b C) hb hv) (fun v' h' hq' => ?_) (fun i h' hq' => by cases hq')
  cases hq'
  iterate 3 (first | refine mj_T.gb C rfl ?_ | refine mj_T.pl rfl rfl rfl rfl ?_)
  refine mj_T.eq (jq_adds_loop C (x := u.natAbs) (y := v.natAbs) (sg := sg) hto ha hb (by omega) (by omega) hu.2.2.1 hv.2.2.1 (fun bg1 l10 g1 g2 => ?_) (max (jnl u.natAbs) (jnl v.natAbs)) 0 bg none (by omega) (fun j hj => by omega) (fun q _ => rfl)) rfl ?_ rfl rfl
  rotate_left
  · rw [jcy_zero]; rfl
  have htop := jcy_top (x := u.natAbs) (y := v.natAbs) (n := max (jnl u.natAbs) (jnl v.natAbs)) (by omega) (by omega)
  have hc := jcy_le u.natAbs v.natAbs (max (jnl u.natAbs) (jnl v.natAbs))
  have hN : max (jnl u.natAbs) (jnl v.natAbs) ≤ 698 := by omega
  generalize max (jnl u.natAbs) (jnl v.natAbs) = N at *
  iterate 4 (first | refine mj_T.gb C rfl ?_ | refine mj_T.pl rfl rfl rfl rfl ?_)
  refine mj_T.imul (b := 702) rfl ?_
  (first | refine mj_T.gb C rfl ?_ | refine mj_T.pl rfl rfl rfl rfl ?_)
  refine mj_T.iadd (b := 2) rfl ?_
  (first | refine mj_T.gb C rfl ?_ | refine mj_T.pl rfl rfl rfl rfl ?_)
  refine mj_T.iadd rfl ?_
  rw [show (to : Int) * 702 + 2 + (N : Int) = ((to * 702 + 2 + N : Nat) : Int) by omega]
  (first | refine mj_T.gb C rfl ?_ | refine mj_T.pl rfl rfl rfl rfl ?_)
  refine mj_T.xst C rfl ⟨by omega, by omega⟩ ⟨by omega, by omega⟩ ?_
  iterate 4 (first | refine mj_T.gb C rfl ?_ | refine mj_T.pl rfl rfl rfl rfl ?_)
  refine mj_T.imul (b := 702) rfl ?_
  rw [show (to : Int) * 702 = ((to * 702 : Nat) : Int) by omega]
  (first | refine mj_T.gb C rfl ?_ | refine mj_T.pl rfl rfl rfl rfl ?_)
  refine mj_T.xst C rfl ⟨by omega, by omega⟩ ⟨by omega, by omega⟩ ?_
  iterate 4 (first | refine mj_T.gb C rfl ?_ | refine mj_T.pl rfl rfl rfl rfl ?_)
  refine mj_T.iadd rfl ?_
  rw [show (N : Int) + ((jcy u.natAbs v.natAbs N : Nat) : Int) = ((N + jcy u.natAbs v.natAbs N : Nat) : Int) by omega]
  refine mj_T.call (ins := .invokevirtual 80) rfl rfl (Nat.le_of_ble_eq_true rfl) (Nat.le_of_ble_eq_true rfl) (by simp [mj_recv, jX_a C]) rfl (jq_trims (D := D) C (bg := upd (upd bg1 (to * 702 + 2 + N) (jn (jcy u.natAbs v.natAbs N))) (to * 702) (jn sg)) (x := u.natAbs + v.natAbs) (g0 := sg) (n := N + jcy u.natAbs v.natAbs N) hto (by omega) htop.2 (if_pos rfl) (fun j hj => ?_)) (fun v' h' hq' => ?_) (fun i h' hq' => by obtain ⟨_, _, _, _, _, h⟩ := hq'; cases h)
  · unfold upd
    rw [if_neg (by omega)]
    by_cases h : j = N
    · subst h; rw [if_pos rfl, htop.1]
    · rw [if_neg (by omega)]; exact g1 j (by omega)
  · obtain ⟨bg', e1, e2, e3, e4, h⟩ := hq'
    cases h
    refine mj_T.ret rfl rfl rfl ⟨bg', e1, e2, fun j hj => e3 j (Nat.lt_of_lt_of_le hj htop.2), fun q hq => ?_, rfl⟩
    rw [e4 q hq]
    unfold upd
    rw [if_neg (by omega), if_neg (by omega)]
    exact g2 q (fun j hj => by omega)
/-! Of the reference and of numbers (as in p1, part 78n). -/
def jcm (x y : Nat) : Int := if x < y then -1 else if y < x then 1 else 0
theorem jcm_range (x y : Nat) : -1 ≤ jcm x y ∧ jcm x y ≤ 1 := by unfold jcm; (repeat' split) <;> omega
theorem jcm_lt {x y : Nat} (h : x < y) : jcm x y = -1 := by unfold jcm; rw [if_pos h]
theorem jcm_gt {x y : Nat} (h : y < x) : jcm x y = 1 := by unfold jcm; rw [if_neg (by omega), if_pos h]
theorem jcm_eq {x y : Nat} (h : x = y) : jcm x y = 0 := by unfold jcm; rw [if_neg (by omega), if_neg (by omega)]
section JX3
variable {D : Nat} {hp : mj_H} {q0 q1 : Nat} {fs : List Value} {bg : Nat → Int32}
/-- the copy of a row's piece within the row -/
theorem jX_cpy (C : jC hp q0 q1 fs) {s d n : Nat} (h1 : s + n ≤ 466830) (h2 : d + n ≤ 466830) : mj_prim 4 [.int (jn (n : Nat)), .int (jn (d : Nat)), .ref q1, .int (jn (s : Nat)), .ref q1] (jX hp q1 bg) = some ([], jX hp q1 (va_cpy bg bg s d n)) := by
  have hs : jr (s : Int) := ⟨by omega, by omega⟩
  have hd : jr (d : Int) := ⟨by omega, by omega⟩
  have hn : jr (n : Int) := ⟨by omega, by omega⟩
  have z : jr 0 := ⟨by omega, by omega⟩
  have e1 : (jn (s : Nat)).toNatClampNeg = s := by rw [jn_nat (by omega) hs]; rfl
  have e2 : (jn (d : Nat)).toNatClampNeg = d := by rw [jn_nat (by omega) hd]; rfl
  have e3 : (jn (n : Nat)).toNatClampNeg = n := by rw [jn_nat (by omega) hn]; rfl
  have g : ∀ k : Nat, jr (k : Int) → (0 : Int32) ≤ jn (k : Nat) := fun k hk => by
    rw [show (0 : Int32) = jn 0 from rfl, jn_le z hk]; omega
  simp only [mj_prim, jX_b C, e1, e2, e3]
  rw [if_pos ⟨Nat.le_of_ble_eq_true rfl, trivial, Or.inl trivial, g s hs, g d hd, g n hn, h1, h2, by simp [mj_cpok, mj_isint]⟩]
  have e : va_cpy (fun j => Value.int (bg j)) (fun j => Value.int (bg j)) s d n = fun j => .int (va_cpy bg bg s d n j) := by
    funext j
    unfold va_cpy
    split <;> rfl
  rw [e, jX_set]
theorem jq_copies (C : jC hp q0 q1 fs) {to s : Nat} {v : Int} (hto : to < 665) (hs : s < 665) (hv : jrs bg s v) :
    mj_Ok (D + 2) 182 [.ref q0, .int (jn to), .int (jn s)] (jX hp q1 bg) (fun r => ∃ bg' : Nat → Int32, jrs bg' to v ∧ jrf bg bg' to ∧ r = (.inl none, jX hp q1 bg')) := by
  have h4 := hv.2.2.2
  refine mj_Ok.of (M := mj_m182) rfl rfl rfl ?_
  iterate 4 (first | refine mj_T.gb C rfl ?_ | refine mj_T.pl rfl rfl rfl rfl ?_)
  refine mj_T.imul (b := 702) rfl ?_
  rw [show (s : Int) * 702 = ((s * 702 : Nat) : Int) by omega]
  iterate 4 (first | refine mj_T.gb C rfl ?_ | refine mj_T.pl rfl rfl rfl rfl ?_)
  refine mj_T.imul (b := 702) rfl ?_
  rw [show (to : Int) * 702 = ((to * 702 : Nat) : Int) by omega]
  iterate 2 (first | refine mj_T.gb C rfl ?_ | refine mj_T.pl rfl rfl rfl rfl ?_)
  refine mj_T.call (ins := .invokevirtual 52) rfl rfl (Nat.le_of_ble_eq_true rfl) (Nat.le_of_ble_eq_true rfl) (by simp [mj_recv, jX_a C]) rfl (jq_length (D := D) (jX_a C) C.2.1 (jX_b C) hs hv) (fun v' h' hq' => ?_) (fun i h' hq' => by cases hq')
  cases hq'
  refine mj_T.pl rfl rfl rfl rfl ?_
  refine mj_T.iadd (b := 2) rfl ?_
  rw [show ((jnl v.natAbs : Nat) : Int) + 2 = ((jnl v.natAbs + 2 : Nat) : Int) by omega]
  refine mj_T.prim rfl rfl (jX_cpy C (by omega) (by omega)) ?_
  refine mj_T.ret rfl rfl rfl ⟨_, ⟨?_, ?_, fun j hj => ?_, h4⟩, fun j hj => ?_, rfl⟩
  · unfold va_cpy
    rw [if_pos (by omega), show s * 702 + (to * 702 - to * 702) = s * 702 by omega]
    exact hv.1
  · unfold va_cpy
    rw [if_pos (by omega), show s * 702 + (to * 702 + 1 - to * 702) = s * 702 + 1 by omega]
    exact hv.2.1
  · unfold va_cpy
    rw [if_pos (by omega), show s * 702 + (to * 702 + 2 + j - to * 702) = s * 702 + 2 + j by omega]
    exact hv.2.2.1 j hj
  · unfold va_cpy
    rw [if_neg (by omega)]
theorem jq_cmp_loop (C : jC hp q0 q1 fs) {s1 s2 : Nat} {u v : Int} (hs1 : s1 < 665) (hs2 : s2 < 665) (hu : jrs bg s1 u) (hv : jrs bg s2 v) {Q : mj_R → Prop} (hend : Q (.inl (some (.int (jn (jcm u.natAbs v.natAbs)))), jX hp q1 bg)) :
    ∀ k : Nat, k ≤ 700 → u.natAbs / jB ^ k = v.natAbs / jB ^ k → mj_T (D + 2) mj_m184 40 [some (.ref q0), some (.int (jn s1)), some (.int (jn s2)), some (.int (jn ((k : Int) - 1)))] [] (jX hp q1 bg) Q := by
  intro k
  induction k with
  | zero =>
    intro hk he
    refine mj_T.pl rfl rfl rfl rfl ?_
    refine mj_T.if0 rfl ⟨by omega, by omega⟩ (fun hc => ?_) (fun hc => ?_)
    · rw [Nat.pow_zero, Nat.div_one, Nat.div_one] at he
      rw [jcm_eq he] at hend
      refine mj_T.pl rfl rfl rfl rfl ?_
      exact mj_T.ret rfl rfl rfl hend
    · simp only [jc, decide_eq_false_iff_not] at hc; omega
  | succ k ih =>
    intro hk he
    have hx1 := jlb_lt u.natAbs k
    have hy1 := jlb_lt v.natAbs k
    rw [show ((k + 1 : Nat) : Int) - 1 = (k : Int) by omega]
    refine mj_T.pl rfl rfl rfl rfl ?_
    refine mj_T.if0 rfl ⟨by omega, by omega⟩ (fun hc => ?_) (fun hc => ?_)
    · simp only [jc, decide_eq_true_eq] at hc; omega
    clear hc
    iterate 3 refine mj_T.pl rfl rfl rfl rfl ?_
    refine mj_T.call (ins := .invokevirtual 64) rfl rfl (Nat.le_of_ble_eq_true rfl) (Nat.le_of_ble_eq_true rfl) (by simp [mj_recv, jX_a C]) rfl (jq_limb (D := D) (jX_a C) C.2.1 (jX_b C) hs1 (show k ≤ 700 by omega) hu) (fun v' h' hq' => ?_) (fun i h' hq' => by cases hq')
    cases hq'
    iterate 3 refine mj_T.pl rfl rfl rfl rfl ?_
    refine mj_T.call (ins := .invokevirtual 64) rfl rfl (Nat.le_of_ble_eq_true rfl) (Nat.le_of_ble_eq_true rfl) (by simp [mj_recv, jX_a C]) rfl (jq_limb (D := D) (jX_a C) C.2.1 (jX_b C) hs2 (show k ≤ 700 by omega) hv) (fun v' h' hq' => ?_) (fun i h' hq' => by cases hq')
    cases hq'
    refine mj_T.icmp rfl ⟨by omega, by omega⟩ ⟨by omega, by omega⟩ (fun hc => ?_) (fun hc => ?_)
    · simp only [jc, decide_eq_true_eq] at hc
      refine mj_T.iinc (a := k) rfl rfl ?_
      refine mj_T.pl rfl rfl rfl rfl ?_
      exact ih (by omega) (jeq_of he (by omega))
    · simp only [jc, decide_eq_false_iff_not] at hc
      iterate 3 refine mj_T.pl rfl rfl rfl rfl ?_
      refine mj_T.call (ins := .invokevirtual 64) rfl rfl (Nat.le_of_ble_eq_true rfl) (Nat.le_of_ble_eq_true rfl) (by simp [mj_recv, jX_a C]) rfl (jq_limb (D := D) (jX_a C) C.2.1 (jX_b C) hs1 (show k ≤ 700 by omega) hu) (fun v' h' hq' => ?_) (fun i h' hq' => by cases hq')
      cases hq'
      iterate 3 refine mj_T.pl rfl rfl rfl rfl ?_
      refine mj_T.call (ins := .invokevirtual 64) rfl rfl (Nat.le_of_ble_eq_true rfl) (Nat.le_of_ble_eq_true rfl) (by simp [mj_recv, jX_a C]) rfl (jq_limb (D := D) (jX_a C) C.2.1 (jX_b C) hs2 (show k ≤ 700 by omega) hv) (fun v' h' hq' => ?_) (fun i h' hq' => by cases hq')
      cases hq'
      refine mj_T.icmp rfl ⟨by omega, by omega⟩ ⟨by omega, by omega⟩ (fun hc2 => ?_) (fun hc2 => ?_)
      · simp only [jc, decide_eq_true_eq] at hc2
        rw [jcm_gt (jlt_of he.symm (show jlb v.natAbs k < jlb u.natAbs k by omega))] at hend
        refine mj_T.pl rfl rfl rfl rfl ?_
        exact mj_T.ret rfl rfl rfl hend
      · simp only [jc, decide_eq_false_iff_not] at hc2
        rw [jcm_lt (jlt_of he (show jlb u.natAbs k < jlb v.natAbs k by omega))] at hend
        iterate 2 refine mj_T.pl rfl rfl rfl rfl ?_
        exact mj_T.ret rfl rfl rfl hend
theorem jq_cmp (C : jC hp q0 q1 fs) {s1 s2 : Nat} {u v : Int} (hs1 : s1 < 665) (hs2 : s2 < 665) (hu : jrs bg s1 u) (hv : jrs bg s2 v) :
    mj_Ok (D + 3) 184 [.ref q0, .int (jn s1), .int (jn s2)] (jX hp q1 bg) (fun r => r = (.inl (some (.int (jn (jcm u.natAbs v.natAbs)))), jX hp q1 bg)) := by
  have k1 := hu.2.2.2
  have k2 := hv.2.2.2
  refine mj_Ok.of (M := mj_m184) rfl rfl rfl ?_
  iterate 2 refine mj_T.pl rfl rfl rfl rfl ?_
  refine mj_T.call (ins := .invokevirtual 52) rfl rfl (Nat.le_of_ble_eq_true rfl) (Nat.le_of_ble_eq_true rfl) (by simp [mj_recv, jX_a C]) rfl (jq_length (D := D + 1) (jX_a C) C.2.1 (jX_b C) hs1 hu) (fun v' h' hq' => ?_) (fun i h' hq' => by cases hq')
  cases hq'
  iterate 2 refine mj_T.pl rfl rfl rfl rfl ?_
  refine mj_T.call (ins := .invokevirtual 52) rfl rfl (Nat.le_of_ble_eq_true rfl) (Nat.le_of_ble_eq_true rfl) (by simp [mj_recv, jX_a C]) rfl (jq_length (D := D + 1) (jX_a C) C.2.1 (jX_b C) hs2 hv) (fun v' h' hq' => ?_) (fun i h' hq' => by cases hq')
  cases hq'
  refine mj_T.icmp rfl ⟨by omega, by omega⟩ ⟨by omega, by omega⟩ (fun hc => ?_) (fun hc => ?_)
  · simp only [jc, decide_eq_true_eq] at hc
    iterate 2 refine mj_T.pl rfl rfl rfl rfl ?_
    refine mj_T.call (ins := .invokevirtual 52) rfl rfl (Nat.le_of_ble_eq_true rfl) (Nat.le_of_ble_eq_true rfl) (by simp [mj_recv, jX_a C]) rfl (jq_length (D := D + 1) (jX_a C) C.2.1 (jX_b C) hs1 hu) (fun v' h' hq' => ?_) (fun i h' hq' => by cases hq')
    cases hq'
    refine mj_T.pl rfl rfl rfl rfl ?_
    refine mj_T.isub (b := 1) rfl ?_
    refine mj_T.pl rfl rfl rfl rfl ?_
    have e1 := jnl_le.mp (Nat.le_refl (jnl u.natAbs))
    have e2 := jnl_le.mp (show jnl v.natAbs ≤ jnl u.natAbs by omega)
    exact jq_cmp_loop (Q := fun r => r = (.inl (some (.int (jn (jcm u.natAbs v.natAbs)))), jX hp q1 bg)) C hs1 hs2 hu hv rfl (jnl u.natAbs) k1 (by rw [e1, e2])
  · simp only [jc, decide_eq_false_iff_not] at hc
    iterate 2 refine mj_T.pl rfl rfl rfl rfl ?_
    refine mj_T.call (ins := .invokevirtual 52) rfl rfl (Nat.le_of_ble_eq_true rfl) (Nat.le_of_ble_eq_true rfl) (by simp [mj_recv, jX_a C]) rfl (jq_length (D := D + 1) (jX_a C) C.2.1 (jX_b C) hs1 hu) (fun v' h' hq' => ?_) (fun i h' hq' => by cases hq')
    cases hq'
    iterate 2 refine mj_T.pl rfl rfl rfl rfl ?_
    refine mj_T.call (ins := .invokevirtual 52) rfl rfl (Nat.le_of_ble_eq_true rfl) (Nat.le_of_ble_eq_true rfl) (by simp [mj_recv, jX_a C]) rfl (jq_length (D := D + 1) (jX_a C) C.2.1 (jX_b C) hs2 hv) (fun v' h' hq' => ?_) (fun i h' hq' => by cases hq')
    cases hq'
    refine mj_T.icmp rfl ⟨by omega, by omega⟩ ⟨by omega, by omega⟩ (fun hc2 => ?_) (fun hc2 => ?_)
    · simp only [jc, decide_eq_true_eq] at hc2
      rw [jcm_gt (jlt_nl (show jnl v.natAbs < jnl u.natAbs by omega))]
      refine mj_T.pl rfl rfl rfl rfl ?_
      exact mj_T.ret rfl rfl rfl rfl
    · simp only [jc, decide_eq_false_iff_not] at hc2
      rw [jcm_lt (jlt_nl (show jnl u.natAbs < jnl v.natAbs by omega))]
      iterate 2 refine mj_T.pl rfl rfl rfl rfl ?_
      exact mj_T.ret rfl rfl rfl rfl
theorem jq_takes_loop (C : jC hp q0 q1 fs) {to a b x y z : Nat} {bg0 : Nat → Int32} {sg : Int} (hto : to < 665) (ha : a < 665) (hb : b < 665) (hxz : x = z + y) (hx : jnl x ≤ 700) (h1 : ∀ j, j < jnl x → bg0 (a * 702 + 2 + j) = jn (jlb x j)) (h2 : ∀ j, j < jnl y → bg0 (b * 702 + 2 + j) = jn (jlb y j)) {Q : mj_R → Prop}
    (hend : ∀ (bg : Nat → Int32) (l7 l9 : Option Value), (∀ j, j < jnl x → bg (to * 702 + 2 + j) = jn (jlb z j)) → (∀ q, (∀ j, j < jnl x → q ≠ to * 702 + 2 + j) → bg q = bg0 q) → mj_T D mj_m187 115 [some (.ref q0), some (.int (jn to)), some (.int (jn a)), some (.int (jn b)), some (.int (jn sg)), some (.int (jn (jnl x))), some (.int (jn (jnl y))), l7, some (.int (jn (jnl x))), l9] [] (jX hp q1 bg) Q) :
    ∀ (d k : Nat) (bg : Nat → Int32) (l9 : Option Value), k + d = jnl x → (∀ j, j < k → bg (to * 702 + 2 + j) = jn (jlb z j)) → (∀ q, (∀ j, j < k → q ≠ to * 702 + 2 + j) → bg q = bg0 q) →
      mj_T D mj_m187 20 [some (.ref q0), some (.int (jn to)), some (.int (jn a)), some (.int (jn b)), some (.int (jn sg)), some (.int (jn (jnl x))), some (.int (jn (jnl y))), some (.int (jn (jcy z y k))), some (.int (jn k)), l9] [] (jX hp q1 bg) Q := by
  have hyx : jnl y ≤ jnl x := jnl_mono (by omega)
  intro d
  induction d with
  | zero =>
    intro k bg l9 hk g1 g2
    have ek : k = jnl x := by omega
    subst ek
    iterate 2 refine mj_T.pl rfl rfl rfl rfl ?_
    refine mj_T.icmp rfl ⟨by omega, by omega⟩ ⟨by omega, by omega⟩ (fun hc => ?_) (fun hc => ?_)
    · exact hend bg _ l9 g1 g2
    · simp only [jc, decide_eq_false_iff_not] at hc; omega
  | succ d ih =>
    intro k bg l9 hk g1 g2
    have hcx := jcy_le z y k
    have hcx2 := jcy_le z y (k + 1)
    have hu1 := jlb_lt x k
    have hv1 := jlb_lt y k
    have hz1 := jlb_lt z k
    have hlim : jlb (z + y) k = (jlb z k + jlb y k + jcy z y k) % 1000000000 := jcy_limb z y k
    have hnx : jcy z y (k + 1) = (jlb z k + jlb y k + jcy z y k) / 1000000000 := jcy_next z y k
    rw [← hxz] at hlim
    have hdm := Nat.div_add_mod (jlb z k + jlb y k + jcy z y k) 1000000000
    iterate 2 refine mj_T.pl rfl rfl rfl rfl ?_
    refine mj_T.icmp rfl ⟨by omega, by omega⟩ ⟨by omega, by omega⟩ (fun hc => ?_) (fun hc => ?_)
    · simp only [jc, decide_eq_true_eq] at hc; omega
    clear hc
    have k84 : ∀ w s : Int, w = (jcy z y (k + 1) : Nat) → s = (jlb z k : Int) - (jcy z y (k + 1) : Nat) * 1000000000 → mj_T D mj_m187 84 [some (.ref q0), some (.int (jn to)), some (.int (jn a)), some (.int (jn b)), some (.int (jn sg)), some (.int (jn (jnl x))), some (.int (jn (jnl y))), some (.int (jn (jcy z y k))), some (.int (jn k)), some (.int (jn s))] [.int (jn w)] (jX hp q1 bg) Q := by
      intro w s hw hs
      subst hw
      iterate 5 (first | refine mj_T.gb C rfl ?_ | refine mj_T.pl rfl rfl rfl rfl ?_)
      refine mj_T.imul (b := 702) rfl ?_
      refine mj_T.pl rfl rfl rfl rfl ?_
      refine mj_T.iadd (b := 2) rfl ?_
      refine mj_T.pl rfl rfl rfl rfl ?_
      refine mj_T.iadd rfl ?_
      rw [show (to : Int) * 702 + 2 + (k : Int) = ((to * 702 + 2 + k : Nat) : Int) by omega]
      iterate 3 refine mj_T.pl rfl rfl rfl rfl ?_
      refine mj_T.imul (b := 1000000000) rfl ?_
      refine mj_T.iadd rfl ?_
      rw [show s + ((jcy z y (k + 1) : Nat) : Int) * 1000000000 = ((jlb z k : Nat) : Int) by omega]
      refine mj_T.xst C rfl ⟨by omega, by omega⟩ ⟨by omega, by omega⟩ ?_
      refine mj_T.iinc (a := k) rfl rfl ?_
      refine mj_T.pl rfl rfl rfl rfl ?_
      refine ih (k + 1) (upd bg (to * 702 + 2 + k) (jn (jlb z k))) _ (by omega) (fun j hj => ?_) (fun q hq => ?_)
      · unfold upd
        by_cases h : j = k
        · subst h; rw [if_pos rfl]
        · rw [if_neg (by omega)]; exact g1 j (by omega)
      · unfold upd
        rw [if_neg (hq k (by omega))]
        exact g2 q (fun j hj => hq j (by omega))
    have k68 : ∀ w : Int, w = (jlb y k : Nat) → mj_T D mj_m187 68 [some (.ref q0), some (.int (jn to)), some (.int (jn a)), some (.int (jn b)), some (.int (jn sg)), some (.int (jn (jnl x))), some (.int (jn (jnl y))), some (.int (jn (jcy z y k))), some (.int (jn k)), l9] [.int (jn w), .int (jn (jlb x k : Nat))] (jX hp q1 bg) Q := by
      intro w hw
      refine mj_T.isub rfl ?_
      refine mj_T.pl rfl rfl rfl rfl ?_
      refine mj_T.isub rfl ?_
      iterate 2 refine mj_T.pl rfl rfl rfl rfl ?_
      refine mj_T.if0 rfl ⟨by omega, by omega⟩ (fun hc => ?_) (fun hc => ?_)
      · simp only [jc, decide_eq_true_eq] at hc
        refine mj_T.pl rfl rfl rfl rfl ?_
        exact k84 0 _ (by omega) (by omega)
      · simp only [jc, decide_eq_false_iff_not] at hc
        iterate 2 refine mj_T.pl rfl rfl rfl rfl ?_
        exact k84 1 _ (by omega) (by omega)
    iterate 4 (first | refine mj_T.gb C rfl ?_ | refine mj_T.pl rfl rfl rfl rfl ?_)
    refine mj_T.imul (b := 702) rfl ?_
    refine mj_T.pl rfl rfl rfl rfl ?_
    refine mj_T.iadd (b := 2) rfl ?_
    refine mj_T.pl rfl rfl rfl rfl ?_
    refine mj_T.iadd rfl ?_
    rw [show (a : Int) * 702 + 2 + (k : Int) = ((a * 702 + 2 + k : Nat) : Int) by omega]
    refine mj_T.xld C rfl ⟨by omega, by omega⟩ ⟨by omega, by omega⟩ ((g2 (a * 702 + 2 + k) (fun j hj => by omega)).trans (h1 k (by omega))) ?_
    iterate 2 refine mj_T.pl rfl rfl rfl rfl ?_
    refine mj_T.icmp rfl ⟨by omega, by omega⟩ ⟨by omega, by omega⟩ (fun hc => ?_) (fun hc => ?_)
    · simp only [jc, decide_eq_true_eq] at hc
      refine mj_T.pl rfl rfl rfl rfl ?_
      exact k68 0 (by rw [jlb_high (show jnl y ≤ k by omega)]; rfl)
    · simp only [jc, decide_eq_false_iff_not] at hc
      iterate 4 (first | refine mj_T.gb C rfl ?_ | refine mj_T.pl rfl rfl rfl rfl ?_)
      refine mj_T.imul (b := 702) rfl ?_
      refine mj_T.pl rfl rfl rfl rfl ?_
      refine mj_T.iadd (b := 2) rfl ?_
      refine mj_T.pl rfl rfl rfl rfl ?_
      refine mj_T.iadd rfl ?_
      rw [show (b : Int) * 702 + 2 + (k : Int) = ((b * 702 + 2 + k : Nat) : Int) by omega]
      refine mj_T.xld C rfl ⟨by omega, by omega⟩ ⟨by omega, by omega⟩ ((g2 (b * 702 + 2 + k) (fun j hj => by omega)).trans (h2 k (by omega))) ?_
      refine mj_T.pl rfl rfl rfl rfl ?_
      exact k68 _ rfl
theorem jq_takes (C : jC hp q0 q1 fs) {to a b : Nat} {u v sg : Int} (hto : to < 665) (ha : a < 665) (hb : b < 665) (hu : jrs bg a u) (hv : jrs bg b v) (hle : v.natAbs ≤ u.natAbs) :
    mj_Ok (D + 2) 187 [.ref q0, .int (jn to), .int (jn a), .int (jn b), .int (jn sg)] (jX hp q1 bg) (fun r => ∃ bg' : Nat → Int32, bg' (to * 702) = jn (if u.natAbs - v.natAbs = 0 then 0 else sg) ∧ bg' (to * 702 + 1) = jn (jnl (u.natAbs - v.natAbs)) ∧ (∀ j, j < jnl (u.natAbs - v.natAbs) → bg' (to * 702 + 2 + j) = jn (jlb (u.natAbs - v.natAbs) j)) ∧ jrf bg bg' to ∧ r = (.inl none, jX hp q1 bg')) := by
  have k1 := hu.2.2.2
  refine mj_Ok.of (M := mj_m187) rfl rfl rfl ?_
  iterate 2 refine mj_T.pl rfl rfl rfl rfl ?_
  refine mj_T.call (ins := .invokevirtual 52) rfl rfl (Nat.le_of_ble_eq_true rfl) (Nat.le_of_ble_eq_true rfl) (by simp [mj_recv, jX_a C]) rfl (jq_length (D := D) (jX_a C) C.2.1 (jX_b C) ha hu) (fun v' h' hq' => ?_) (fun i h' hq' => by cases hq')
  cases hq'
  iterate 3 refine mj_T.pl rfl rfl rfl rfl ?_
  refine mj_T.call (ins := .invokevirtual 52) rfl rfl (Nat.le_of_ble_eq_true rfl) (Nat.le_of_ble_eq_true rfl) (by simp [mj_recv, jX_a C]) rfl (jq_length (D := D) (jX_a C) C.2.1 (jX_b C) hb hv) (fun v' h' hq' => ?_) (fun i h' hq' => by cases hq')
  cases hq'
  iterate 5 refine mj_T.pl rfl rfl rfl rfl ?_
  have hzx : jnl (u.natAbs - v.natAbs) ≤ jnl u.natAbs := jnl_mono (Nat.sub_le _ _)
  refine mj_T.eq (jq_takes_loop C (x := u.natAbs) (y := v.natAbs) (z := u.natAbs - v.natAbs) (sg := sg) hto ha hb (by omega) k1 hu.2.2.1 hv.2.2.1 (fun bg1 l7 l9 g1 g2 => ?_) (jnl u.natAbs) 0 bg none (by omega) (fun j hj => by omega) (fun q _ => rfl)) rfl ?_ rfl rfl
  rotate_left
  · rw [jcy_zero]; rfl
  generalize u.natAbs - v.natAbs = z at *
  iterate 4 (first | refine mj_T.gb C rfl ?_ | refine mj_T.pl rfl rfl rfl rfl ?_)
  refine mj_T.imul (b := 702) rfl ?_
  rw [show (to : Int) * 702 = ((to * 702 : Nat) : Int) by omega]
  refine mj_T.pl rfl rfl rfl rfl ?_
  refine mj_T.xst C rfl ⟨by omega, by omega⟩ ⟨by omega, by omega⟩ ?_
  iterate 3 refine mj_T.pl rfl rfl rfl rfl ?_
  refine mj_T.call (ins := .invokevirtual 80) rfl rfl (Nat.le_of_ble_eq_true rfl) (Nat.le_of_ble_eq_true rfl) (by simp [mj_recv, jX_a C]) rfl (jq_trims (D := D) C (bg := upd bg1 (to * 702) (jn sg)) (x := z) (g0 := sg) (n := jnl u.natAbs) hto k1 hzx (if_pos rfl) (fun j hj => ?_)) (fun v' h' hq' => ?_) (fun i h' hq' => by obtain ⟨_, _, _, _, _, h⟩ := hq'; cases h)
  · unfold upd
    rw [if_neg (by omega)]
    exact g1 j hj
  · obtain ⟨bg', e1, e2, e3, e4, h⟩ := hq'
    cases h
    refine mj_T.ret rfl rfl rfl ⟨bg', e1, e2, fun j hj => e3 j (Nat.lt_of_lt_of_le hj hzx), fun q hq => ?_, rfl⟩
    rw [e4 q hq]
    unfold upd
    rw [if_neg (by omega)]
    exact g2 q (fun j hj => by omega)
end JX3
