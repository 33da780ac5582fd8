/-! Of the reference and of numbers (as in p1, part 77.). -/
theorem jw_self_loop {D n x : Nat} {g0 : Int32} {g : Nat → Int32} (hn : n < 2147483648) (hcap : jnl (x + x) ≤ n) (hg : ∀ j, j < jnl x → g j = jn (jlb x j)) {Q : mj_R → Prop}
    (hend : ∀ (gi : Nat → Int32) (sz : Int), (jnl (x + x) = 0 ∨ sz = jnl (x + x)) → (∀ j, j < jnl (x + x) → gi j = jn (jlb (x + x) j)) → Q (.inl none, (jH1 n sz g0 gi))) :
    ∀ (d i : Nat) (gi : Nat → Int32) (sz : Int) (l6 : Option Value), i + d = n → i ≤ jnl (x + x) → (i = 0 ∨ sz = i) → (∀ j, j < i → gi j = jn (jlb (x + x) j)) → (∀ j, i ≤ j → gi j = g j) →
      mj_T D mj_m93 24 [some (.ref 0), some (.ref 0), some (.int (jn (jnl x))), some (.int (jn (jnl x))), some (.int (jn (jcy x x i))), some (.int (jn i)), l6] [] (jH1 n sz g0 gi) Q := by
  intro d
  induction d with
  | zero =>
    intro i gi sz l6 hid hil hsz hg1 hg2
    iterate 3 refine mj_T.pl rfl rfl rfl rfl ?_
    refine mj_T.alen rfl rfl ?_
    refine mj_T.icmp rfl ⟨by omega, by omega⟩ ⟨by omega, by omega⟩ (fun hc31 => ?_) (fun hc31 => ?_)
    · have e : i = jnl (x + x) := by omega
      subst e
      exact mj_T.ret rfl rfl rfl (hend gi sz (by omega) hg1)
    · simp only [jc, decide_eq_false_iff_not] at hc31; omega
  | succ d ih =>
    intro i gi sz l6 hid hil hsz hg1 hg2
    have hcx := jcy_le x x i
    have hxn : jnl x ≤ n := Nat.le_trans (jnl_mono (Nat.le_add_right x x)) hcap
    iterate 3 refine mj_T.pl rfl rfl rfl rfl ?_
    refine mj_T.alen rfl rfl ?_
    refine mj_T.icmp rfl ⟨by omega, by omega⟩ ⟨by omega, by omega⟩ (fun hc31 => ?_) (fun hc31 => ?_)
    · simp only [jc, decide_eq_true_eq] at hc31; omega
    clear hc31
    have key : (i < jnl x ∨ i < jnl x ∨ 0 < jcy x x i) → mj_T D mj_m93 51 [some (.ref 0), some (.ref 0), some (.int (jn (jnl x))), some (.int (jn (jnl x))), some (.int (jn (jcy x x i))), some (.int (jn i)), l6] [] (jH1 n sz g0 gi) Q := by
      intro hgo
      have hl := jcy_limb x x i
      have hnx := jcy_next x x i
      have hx1 := jlb_lt x i
      have hy1 := jlb_lt x i
      have hnl := jcy_grow hgo
      have t5 : ∀ (z s : Int), s = (jlb x i + jlb x i + jcy x x i : Nat) → z = (jcy x x (i + 1) : Nat) → mj_T D mj_m93 103 [some (.ref 0), some (.ref 0), some (.int (jn (jnl x))), some (.int (jn (jnl x))), some (.int (jn (jcy x x i))), some (.int (jn i)), some (.int (jn s))] [.int (jn z)] (jH1 n sz g0 gi) Q := by
        intro z s hs hz
        iterate 7 refine mj_T.pl rfl rfl rfl rfl ?_
        refine mj_T.imul (b := 1000000000) rfl ?_
        refine mj_T.isub rfl ?_
        refine mj_T.iast rfl rfl ⟨by omega, by omega⟩ ⟨by omega, by omega⟩ ?_
        iterate 3 refine mj_T.pl rfl rfl rfl rfl ?_
        refine mj_T.iadd (b := 1) rfl ?_
        refine mj_T.pl rfl rfl rfl rfl ?_
        refine mj_T.iinc (a := i) rfl rfl ?_
        refine mj_T.pl rfl rfl rfl rfl ?_
        subst hz
        refine ih (i + 1) (upd gi i (jn (s - (jcy x x (i + 1) : Nat) * 1000000000))) (i + 1) (some (.int (jn s))) (by omega) (by omega) (Or.inr (by omega)) (fun j hj => ?_) (fun j hj => ?_)
        · unfold upd
          split
          · rename_i h
            subst h
            congr 1
            rw [hl, hs, hnx]
            have := Nat.div_add_mod (jlb x j + jlb x j + jcy x x j) 1000000000
            show _ = (((jlb x j + jlb x j + jcy x x j) % 1000000000 : Nat) : Int)
            have e2 : ((jlb x j + jlb x j + jcy x x j) / jB : Nat) = (jlb x j + jlb x j + jcy x x j) / 1000000000 := rfl
            rw [e2]
            omega
          · exact hg1 j (by omega)
        · unfold upd
          rw [if_neg (by omega)]
          exact hg2 j (by omega)
      have t4 : ∀ (z : Int) (s : Int), s = (jlb x i + jcy x x i : Nat) → z = (jlb x i : Nat) → mj_T D mj_m93 88 [some (.ref 0), some (.ref 0), some (.int (jn (jnl x))), some (.int (jn (jnl x))), some (.int (jn (jcy x x i))), some (.int (jn i)), l6] [.int (jn z), .int (jn s)] (jH1 n sz g0 gi) Q := by
        intro z s hs hz
        refine mj_T.iadd rfl ?_
        iterate 3 refine mj_T.pl rfl rfl rfl rfl ?_
        have e2 : ((jlb x i + jlb x i + jcy x x i) / jB : Nat) = (jlb x i + jlb x i + jcy x x i) / 1000000000 := rfl
        refine mj_T.icmp (b := 1000000000) rfl ⟨by omega, by omega⟩ ⟨by omega, by omega⟩ (fun hc95 => ?_) (fun hc95 => ?_)
        · simp only [jc, decide_eq_true_eq] at hc95
          refine mj_T.pl rfl rfl rfl rfl ?_
          exact t5 0 (s + z) (by omega) (by omega)
        · simp only [jc, decide_eq_false_iff_not] at hc95
          iterate 2 refine mj_T.pl rfl rfl rfl rfl ?_
          exact t5 1 (s + z) (by omega) (by omega)
      have t3 : ∀ (z : Int), z = (jlb x i : Nat) → mj_T D mj_m93 70 [some (.ref 0), some (.ref 0), some (.int (jn (jnl x))), some (.int (jn (jnl x))), some (.int (jn (jcy x x i))), some (.int (jn i)), l6] [.int (jn z), .int (jn (jcy x x i))] (jH1 n sz g0 gi) Q := by
        intro z hz
        refine mj_T.iadd rfl ?_
        iterate 2 refine mj_T.pl rfl rfl rfl rfl ?_
        refine mj_T.icmp rfl ⟨by omega, by omega⟩ ⟨by omega, by omega⟩ (fun hc74 => ?_) (fun hc74 => ?_)
        · simp only [jc, decide_eq_true_eq] at hc74
          refine mj_T.pl rfl rfl rfl rfl ?_
          exact t4 0 _ (by omega) (by have := jlb_high (x := x) (j := i) (by omega); omega)
        · simp only [jc, decide_eq_false_iff_not] at hc74
          iterate 3 refine mj_T.pl rfl rfl rfl rfl ?_
          refine mj_T.ialv rfl rfl ⟨by omega, by omega⟩ ⟨by omega, by omega⟩ ((hg2 i (Nat.le_refl i)).trans (hg i (by omega))) ?_
          refine mj_T.pl rfl rfl rfl rfl ?_
          exact t4 _ _ (by omega) rfl
      iterate 3 refine mj_T.pl rfl rfl rfl rfl ?_
      refine mj_T.icmp rfl ⟨by omega, by omega⟩ ⟨by omega, by omega⟩ (fun hc56 => ?_) (fun hc56 => ?_)
      · simp only [jc, decide_eq_true_eq] at hc56
        refine mj_T.pl rfl rfl rfl rfl ?_
        exact t3 0 (by have := jlb_high (x := x) (j := i) (by omega); omega)
      · simp only [jc, decide_eq_false_iff_not] at hc56
        iterate 3 refine mj_T.pl rfl rfl rfl rfl ?_
        refine mj_T.ialv rfl rfl ⟨by omega, by omega⟩ ⟨by omega, by omega⟩ ((hg2 i (Nat.le_refl i)).trans (hg i (by omega))) ?_
        refine mj_T.pl rfl rfl rfl rfl ?_
        exact t3 _ rfl
    iterate 2 refine mj_T.pl rfl rfl rfl rfl ?_
    refine mj_T.icmp rfl ⟨by omega, by omega⟩ ⟨by omega, by omega⟩ (fun hc37 => ?_) (fun hc37 => ?_)
    · simp only [jc, decide_eq_true_eq] at hc37
      exact key (by omega)
    · simp only [jc, decide_eq_false_iff_not] at hc37
      iterate 2 refine mj_T.pl rfl rfl rfl rfl ?_
      refine mj_T.icmp rfl ⟨by omega, by omega⟩ ⟨by omega, by omega⟩ (fun hc43 => ?_) (fun hc43 => ?_)
      · simp only [jc, decide_eq_true_eq] at hc43
        exact key (by omega)
      · simp only [jc, decide_eq_false_iff_not] at hc43
        refine mj_T.pl rfl rfl rfl rfl ?_
        refine mj_T.if0 rfl ⟨by omega, by omega⟩ (fun hc48 => ?_) (fun hc48 => ?_)
        · simp only [jc, decide_eq_true_eq] at hc48
          have e : i = jnl (x + x) := by have := jcy_end (x := x) (y := x) (i := i) (by omega) (by omega) (by omega); omega
          subst e
          exact mj_T.ret rfl rfl rfl (hend gi sz (by omega) hg1)
        · simp only [jc, decide_eq_false_iff_not] at hc48
          exact key (by omega)
theorem jw_self {D n x : Nat} {g0 : Int32} {g : Nat → Int32} (hn : n < 2147483648) (hcap : jnl (x + x) ≤ n) (hg : ∀ j, j < jnl x → g j = jn (jlb x j)) (h0 : 0 < x) :
    mj_Ok (D + 1) 93 [.ref 0, .ref 0] (jH1 n (jnl x) g0 g)
      (fun r => ∃ g' : Nat → Int32, (∀ j, j < jnl (x + x) → g' j = jn (jlb (x + x) j)) ∧ r = (.inl none, (jH1 n (jnl (x + x)) g0 g'))) := by
  have hxn : jnl x ≤ n := Nat.le_trans (jnl_mono (Nat.le_add_right x x)) hcap
  refine mj_Ok.of (M := mj_m93) rfl rfl rfl ?_
  iterate 7 refine mj_T.pl rfl rfl rfl rfl ?_
  refine mj_T.alen rfl rfl ?_
  refine mj_T.imin rfl rfl (Nat.le_of_ble_eq_true rfl) ⟨by omega, by omega⟩ ⟨by omega, by omega⟩ ?_
  rw [show min (jnl x : Int) (n : Int) = (jnl x : Nat) by omega]
  iterate 5 refine mj_T.pl rfl rfl rfl rfl ?_
  refine mj_T.eq (jw_self_loop (x := x) (g := g) hn hcap hg (fun gi sz hsz hgi => ?_) n 0 g (jnl x) none (by omega) (Nat.zero_le _) (Or.inl rfl) (fun j hj => by omega) (fun j _ => rfl)) rfl ?_ rfl rfl
  · rcases hsz with h | h
    · have := jnl_eq0.mp h; omega
    · subst h; exact ⟨gi, hgi, rfl⟩
  · rw [jcy_zero]; rfl
theorem jw_plus_self {D n : Nat} {u : Int} {g : Nat → Int32} (hn : n < 2147483648) (hu : jnl u.natAbs ≤ n) (hcap : jnl (u + u).natAbs ≤ n) (hg : ∀ j, j < jnl u.natAbs → g j = jn (jlb u.natAbs j)) :
    mj_Ok (D + 2) 91 [.ref 0, .ref 0, .int (jn 1)] (jH1 n (jnl u.natAbs) (jn (jsg u)) g)
      (fun r => ∃ g' : Nat → Int32, (∀ j, j < jnl (u + u).natAbs → g' j = jn (jlb (u + u).natAbs j)) ∧ r = (.inl none, jH1 n (jnl (u + u).natAbs) (jn (jsg (u + u))) g')) := by
  have hsu := jsg_range u
  refine mj_Ok.of (M := mj_m91) rfl rfl rfl ?_
  iterate 3 refine mj_T.pl rfl rfl rfl rfl ?_
  refine mj_T.imul rfl ?_
  rw [Int.mul_one]
  iterate 2 refine mj_T.pl rfl rfl rfl rfl ?_
  refine mj_T.if0 rfl ⟨by omega, by omega⟩ (fun hc8 => ?_) (fun hc8 => ?_)
  · simp only [jc, Bool.not_eq_true', decide_eq_false_iff_not] at hc8
    have hz : u ≠ 0 := fun h => hc8 (by rw [h]; rfl)
    iterate 2 refine mj_T.pl rfl rfl rfl rfl ?_
    refine mj_T.if0 rfl ⟨by omega, by omega⟩ (fun hc16 => ?_) (fun hc16 => ?_)
    · iterate 3 refine mj_T.pl rfl rfl rfl rfl ?_
      refine mj_T.icmp rfl ⟨by omega, by omega⟩ ⟨by omega, by omega⟩ (fun hc37 => ?_) (fun hc37 => ?_)
      · exact absurd hc37 (by simp [jc])
      have e : (u + u).natAbs = u.natAbs + u.natAbs := by omega
      iterate 2 refine mj_T.pl rfl rfl rfl rfl ?_
      refine mj_T.call (ins := .invokevirtual 32) rfl rfl (Nat.le_of_ble_eq_true rfl) (Nat.le_of_ble_eq_true rfl) rfl rfl (jw_self (D := D) (x := u.natAbs) hn (by rw [← e]; exact hcap) hg (by omega)) (fun v h' hq' => ?_) (fun i h' hq' => by obtain ⟨_, _, hq'⟩ := hq'; cases hq')
      obtain ⟨g', hg', hq'⟩ := hq'
      cases hq'
      rw [← e] at hg' ⊢
      refine mj_T.pl rfl rfl rfl rfl ?_
      iterate 3 refine mj_T.pl rfl rfl rfl rfl ?_
      refine mj_T.if0 rfl ⟨by omega, by omega⟩ (fun hc81 => ?_) (fun hc81 => ?_)
      · iterate 3 refine mj_T.pl rfl rfl rfl rfl ?_
        have es : jsg u = jsg (u + u) := by
          rcases Int.lt_trichotomy u 0 with q | q | q
          · rw [jsg_neg q, jsg_neg (by omega)]
          · exact absurd q hz
          · rw [jsg_pos q, jsg_pos (by omega)]
        rw [es]
        exact mj_T.ret rfl rfl rfl ⟨g', hg', rfl⟩
      · simp only [jc, Bool.not_eq_false', decide_eq_true_eq] at hc81
        have h0 : (u + u).natAbs = 0 := jnl_eq0.mp (by omega)
        omega
    · simp only [jc, Bool.not_eq_false', decide_eq_true_eq] at hc16
      rcases Int.lt_trichotomy u 0 with q | q | q
      · rw [jsg_neg q] at hc16; omega
      · exact absurd q hz
      · rw [jsg_pos q] at hc16; omega
  · simp only [jc, Bool.not_eq_false', decide_eq_true_eq] at hc8
    have hz : u = 0 := by
      rcases Int.lt_trichotomy u 0 with q | q | q
      · rw [jsg_neg q] at hc8; omega
      · exact q
      · rw [jsg_pos q] at hc8; omega
    subst hz
    exact mj_T.ret rfl rfl rfl ⟨g, hg, rfl⟩
/-! Of the reference and of numbers (as in p1, part 78f). -/
theorem jq_length {D a b i : Nat} {v : Int} {h : mj_H} {fs' : List Value} {bg : Nat → Int32} (h1 : h[a]? = some (.inr (10, fs'))) (h2 : fs'[4]? = some (.ref b)) (h4 : h[b]? = some (.inl (0, 466830, fun j => .int (bg j)))) (hi : i < 665) (k1 : jrs bg i v) : mj_Ok (D + 1) 179 [.ref a, .int (jn (i : Nat))] h (fun r => r = (.inl (some (.int (jn (jnl v.natAbs : Nat)))), h)) := by
  refine mj_Ok.of (M := mj_m179) rfl rfl rfl ?_
  refine mj_T.pl rfl rfl rfl rfl ?_
  refine mj_T.step (loc' := mj_loc0 2 [.ref a, .int (jn i)]) (st' := [.ref b]) (h' := h) (pc' := 4) rfl rfl (by simp only [mj_step, h1, h2, if_true]; rfl) ?_
  iterate 2 refine mj_T.pl rfl rfl rfl rfl ?_
  refine mj_T.imul (b := 702) rfl ?_
  refine mj_T.pl rfl rfl rfl rfl ?_
  refine mj_T.iadd (b := 1) rfl ?_
  rw [show (i : Int) * 702 + 1 = ((i * 702 + 1 : Nat) : Int) by omega]
  refine mj_T.ialv rfl h4 ⟨by omega, by omega⟩ ⟨by omega, by omega⟩ k1.2.1 ?_
  exact mj_T.ret rfl rfl rfl rfl
/-! Of the reference and of numbers (as in p1, part 78i). -/
theorem jq_limb_step (x i : Nat) : x / jB ^ (i + 1) * 1000000000 + jlb x i = x / jB ^ i := by
  rw [Nat.pow_succ, ← Nat.div_div_eq_div_mul]
  exact Nat.div_add_mod' _ _
/-! Of the reference and of numbers (as in p1, part 78j). -/
theorem jq_sign {D a b i : Nat} {v : Int} {h : mj_H} {fs' : List Value} {bg : Nat → Int32} (h1 : h[a]? = some (.inr (10, fs'))) (h2 : fs'[4]? = some (.ref b)) (h4 : h[b]? = some (.inl (0, 466830, fun j => .int (bg j)))) (hi : i < 665) (k1 : jrs bg i v) : mj_Ok (D + 1) 178 [.ref a, .int (jn (i : Nat))] h (fun r => r = (.inl (some (.int (jn (jsg v)))), h)) := by
  refine mj_Ok.of (M := mj_m178) rfl rfl rfl ?_
  refine mj_T.pl rfl rfl rfl rfl ?_
  refine mj_T.step (loc' := mj_loc0 2 [.ref a, .int (jn i)]) (st' := [.ref b]) (h' := h) (pc' := 4) rfl rfl (by simp only [mj_step, h1, h2, if_true]; rfl) ?_
  iterate 2 refine mj_T.pl rfl rfl rfl rfl ?_
  refine mj_T.imul (b := 702) rfl ?_
  rw [show (i : Int) * 702 = ((i * 702 : Nat) : Int) by omega]
  refine mj_T.ialv rfl h4 ⟨by omega, by omega⟩ ⟨by omega, by omega⟩ k1.1 ?_
  exact mj_T.ret rfl rfl rfl rfl
theorem jq_limb {D a b i j : Nat} {v : Int} {h : mj_H} {fs' : List Value} {bg : Nat → Int32} (h1 : h[a]? = some (.inr (10, fs'))) (h2 : fs'[4]? = some (.ref b)) (h4 : h[b]? = some (.inl (0, 466830, fun j => .int (bg j)))) (hi : i < 665) (hj : j ≤ 700) (k1 : jrs bg i v) : mj_Ok (D + 2) 180 [.ref a, .int (jn (i : Nat)), .int (jn (j : Nat))] h (fun r => r = (.inl (some (.int (jn (jlb v.natAbs j : Nat)))), h)) := by
  have hlen := jq_length (D := D) h1 h2 h4 hi k1
  have k3 := k1.2.2.2
  have k4 := k1.2.2.1
  refine mj_Ok.of (D := D + 1) (M := mj_m180) rfl rfl rfl ?_
  iterate 3 refine mj_T.pl rfl rfl rfl rfl ?_
  refine mj_T.call (ins := .invokevirtual 52) rfl rfl (Nat.le_of_ble_eq_true rfl) (Nat.le_of_ble_eq_true rfl) (by simp [mj_recv, h1]) rfl hlen (fun v' h' hq' => ?_) (fun i h' hq' => by cases hq')
  cases hq'
  refine mj_T.icmp rfl ⟨by omega, by omega⟩ ⟨by omega, by omega⟩ (fun hc => ?_) (fun hc => ?_)
  · simp only [jc, decide_eq_true_eq] at hc
    refine mj_T.pl rfl rfl rfl rfl ?_
    refine mj_T.ret rfl rfl rfl ?_
    rw [jlb_high (show jnl v.natAbs ≤ j by omega)]
    rfl
  · simp only [jc, decide_eq_false_iff_not] at hc
    refine mj_T.pl rfl rfl rfl rfl ?_
    refine mj_T.step (loc' := mj_loc0 3 [.ref a, .int (jn i), .int (jn j)]) (st' := [.ref b]) (h' := h) (pc' := 13) rfl rfl (by simp only [mj_step, h1, h2, if_true]; rfl) ?_
    iterate 2 refine mj_T.pl rfl rfl rfl rfl ?_
    refine mj_T.imul (b := 702) rfl ?_
    refine mj_T.pl rfl rfl rfl rfl ?_
    refine mj_T.iadd (b := 2) rfl ?_
    refine mj_T.pl rfl rfl rfl rfl ?_
    refine mj_T.iadd rfl ?_
    rw [show (i : Int) * 702 + 2 + (j : Int) = ((i * 702 + 2 + j : Nat) : Int) by omega]
    refine mj_T.ialv rfl h4 ⟨by omega, by omega⟩ ⟨by omega, by omega⟩ (k4 j (by omega)) ?_
    refine mj_T.pl rfl rfl rfl rfl ?_
    exact mj_T.ret rfl rfl rfl rfl
theorem jq_long_loop {a b s : Nat} {v : Int} {h : mj_H} {fs' : List Value} {bg : Nat → Int32} {Q : mj_R → Prop} (h1 : h[a]? = some (.inr (10, fs'))) (h2 : fs'[4]? = some (.ref b)) (h4 : h[b]? = some (.inl (0, 466830, fun j => .int (bg j)))) (hi : s < 665) (k1 : jrs bg s v) (K : mj_T 2 mj_m195 37 [some (.ref a), some (.int (jn (s : Nat))), some (.long (jl (v.natAbs : Nat))), none, some (.int (jn (-1)))] [] h Q) : ∀ i, i ≤ jnl v.natAbs → mj_T 2 mj_m195 11 [some (.ref a), some (.int (jn (s : Nat))), some (.long (jl (v.natAbs / jB ^ i : Nat))), none, some (.int (jn ((i : Int) - 1)))] [] h Q
  | 0, hi0 => by
    refine mj_T.pl rfl rfl rfl rfl ?_
    refine mj_T.if0 rfl ⟨by omega, by omega⟩ (fun hc => ?_) (fun hc => ?_)
    · rw [Nat.pow_zero, Nat.div_one]
      exact K
    · simp only [jc, decide_eq_false_iff_not] at hc
      omega
  | i + 1, hi0 => by
    have ih := jq_long_loop h1 h2 h4 hi k1 K i (by omega)
    have hb := jlb_lt v.natAbs i
    have k3 := k1.2.2.2
    have hst : ((v.natAbs / jB ^ (i + 1) : Nat) : Int) * 1000000000 + ((jlb v.natAbs i : Nat) : Int) = ((v.natAbs / jB ^ i : Nat) : Int) := by
      rw [← jq_limb_step v.natAbs i, Int.natCast_add, Int.natCast_mul]
      rfl
    rw [show ((i + 1 : Nat) : Int) - 1 = (i : Int) by omega]
    generalize v.natAbs / jB ^ (i + 1) = y at hst ⊢
    refine mj_T.pl rfl rfl rfl rfl ?_
    refine mj_T.if0 rfl ⟨by omega, by omega⟩ (fun hc => ?_) (fun hc => ?_)
    · simp only [jc, decide_eq_true_eq] at hc
      omega
    · iterate 2 refine mj_T.pl rfl rfl rfl rfl ?_
      refine mj_T.lmul (b := 1000000000) rfl ?_
      iterate 3 refine mj_T.pl rfl rfl rfl rfl ?_
      refine mj_T.call (ins := .invokevirtual 64) rfl rfl (Nat.le_of_ble_eq_true rfl) (Nat.le_of_ble_eq_true rfl) (by simp [mj_recv, h1]) rfl (jq_limb (D := 0) h1 h2 h4 hi (show i ≤ 700 by omega) k1) (fun v' h' hq' => ?_) (fun i h' hq' => by cases hq')
      cases hq'
      refine mj_T.i2l rfl ⟨by omega, by omega⟩ ?_
      refine mj_T.ladd rfl ?_
      rw [hst]
      refine mj_T.pl rfl rfl rfl rfl ?_
      refine mj_T.iinc rfl rfl ?_
      refine mj_T.pl rfl rfl rfl rfl ?_
      exact ih
/-! Of the reference and of numbers (as in p1, part 78k). -/
theorem jq_slot {D p i : Nat} {h : mj_H} : mj_Ok (D + 1) 196 [.int (jn (p : Nat)), .int (jn (i : Nat))] h (fun r => r = (.inl (some (.int (jn (p * 13 + i : Nat)))), h)) := by
  refine mj_Ok.of (M := mj_m196) rfl rfl rfl ?_
  iterate 2 refine mj_T.pl rfl rfl rfl rfl ?_
  refine mj_T.imul (b := 13) rfl ?_
  refine mj_T.pl rfl rfl rfl rfl ?_
  refine mj_T.iadd rfl ?_
  refine mj_T.ret rfl rfl rfl ?_
  rw [show ((p * 13 + i : Nat) : Int) = (p : Int) * 13 + (i : Int) by omega]
/-! Of the reference and of numbers (as in p1, part 78l). -/
abbrev jX (h : mj_H) (b : Nat) (bg : Nat → Int32) : mj_H := h.set b (.inl (0, 466830, fun j => .int (bg j)))
abbrev jC (h : mj_H) (a b : Nat) (fs : List Value) : Prop := h[a]? = some (.inr (10, fs)) ∧ fs[4]? = some (.ref b) ∧ a ≠ b ∧ b < h.length
section JX
variable {h : mj_H} {a b : Nat} {fs : List Value} {bg bg' : Nat → Int32}
theorem jX_a (C : jC h a b fs) : (jX h b bg)[a]? = some (.inr (10, fs)) := by
  rw [List.getElem?_set_ne (Ne.symm C.2.2.1)]
  exact C.1
theorem jX_b (C : jC h a b fs) : (jX h b bg)[b]? = some (.inl (0, 466830, fun j => .int (bg j))) := List.getElem?_set_self C.2.2.2
theorem jX_set : (jX h b bg).set b (.inl (0, 466830, fun j => .int (bg' j))) = jX h b bg' := by rw [List.set_set]
theorem jX_len : (jX h b bg).length = h.length := List.length_set
theorem jX_same (hb : h[b]? = some (.inl (0, 466830, fun j => .int (bg j)))) : jX h b bg = h := by
  have hl := (List.getElem?_eq_some_iff.mp hb).1
  apply List.ext_getElem?
  intro q
  by_cases e : q = b
  · subst e
    rw [List.getElem?_set_self hl, hb]
  · rw [List.getElem?_set_ne (Ne.symm e)]
end JX
section JXR
variable {D pc : Nat} {M : mj_M} {loc : mj_L} {st : List Value} {h : mj_H} {a b : Nat} {fs : List Value} {bg : Nat → Int32} {Q : mj_R → Prop} {n r1 r2 r3 r4 r5 : Nat}
theorem mj_T.gb (C : jC h a b fs) (hc : M.2.2.2.2.1 pc = some (.getfield n, 10, 4, r3, r4, r5)) (k : mj_T D M (pc + 3) loc (.ref b :: st) (jX h b bg) Q) : mj_T D M pc loc (.ref a :: st) (jX h b bg) Q :=
  mj_T.step hc rfl (by simp only [mj_step, jX_a C, C.2.1, if_true]) k
theorem mj_T.xld {i z : Int} (C : jC h a b fs) (hc : M.2.2.2.2.1 pc = some (.iaload, r1, r2, r3, r4, r5)) (hi : jr i) (h0 : 0 ≤ i ∧ i < 466830) (hv : bg i.toNat = jn z) (k : mj_T D M (pc + 1) loc (.int (jn z) :: st) (jX h b bg) Q) : mj_T D M pc loc (.int (jn i) :: .ref b :: st) (jX h b bg) Q :=
  mj_T.ialv hc (jX_b C) hi h0 hv k
theorem mj_T.xst {i : Int} {x : Int32} (C : jC h a b fs) (hc : M.2.2.2.2.1 pc = some (.iastore, r1, r2, r3, r4, r5)) (hi : jr i) (h0 : 0 ≤ i ∧ i < 466830) (k : mj_T D M (pc + 1) loc st (jX h b (upd bg i.toNat x)) Q) : mj_T D M pc loc (.int x :: .int (jn i) :: .ref b :: st) (jX h b bg) Q :=
  mj_T.iast hc (jX_b C) hi h0 (by rw [jX_set]; exact k)
end JXR
/-! Of the reference and of numbers (as in p1, part 78m). -/
theorem jq_sets_loop {D s x : Nat} {v : Int} {hp : mj_H} {q0 q1 : Nat} {fs : List Value} {bg0 : Nat → Int32} (C : jC hp q0 q1 fs) (hs : s < 665) (hx : x < 1000000000000000000000000000) (hx2 : x ≤ 9223372036854775808) {Q : mj_R → Prop}
    (hend : ∀ bg : Nat → Int32, bg (s * 702) = bg0 (s * 702) → bg (s * 702 + 1) = jn (jnl x) → (∀ j, j < jnl x → bg (s * 702 + 2 + j) = jn (jlb x j)) → (∀ j, (j < s * 702 ∨ s * 702 + 702 ≤ j) → bg j = bg0 j) → Q (.inl none, jX hp q1 bg)) :
    ∀ (d i : Nat) (bg : Nat → Int32), i + d = jnl x → bg (s * 702) = bg0 (s * 702) → (∀ j, j < i → bg (s * 702 + 2 + j) = jn (jlb x j)) → (∀ j, (j < s * 702 ∨ s * 702 + 702 ≤ j) → bg j = bg0 j) →
      mj_T D mj_m181 52 [some (.ref q0), some (.int (jn s)), some (.long (jl v)), none, some (.int (jn (s * 702 : Nat))), some (.int (jn i)), some (.long (jl (-(x / jB ^ i : Nat)))), none] [] (jX hp q1 bg) Q := by
  have hnl : jnl x ≤ 3 := jnl_le_lt.mpr (by rw [show jB ^ 3 = 1000000000000000000000000000 from rfl]; exact hx)
  intro d
  induction d with
  | zero =>
    intro i bg hid h1 h2 h3
    have ei : i = jnl x := by omega
    subst ei
    have e0 := jnl_le.mp (Nat.le_refl (jnl x))
    iterate 2 (first | refine mj_T.gb C rfl ?_ | refine mj_T.pl rfl rfl rfl rfl ?_)
    refine mj_T.lif (b := 0) rfl rfl ⟨by omega, by omega⟩ ⟨by omega, by omega⟩ (fun hc => ?_) (fun hc => ?_)
    · iterate 3 (first | refine mj_T.gb C rfl ?_ | refine mj_T.pl rfl rfl rfl rfl ?_)
      (first | refine mj_T.gb C rfl ?_ | refine mj_T.pl rfl rfl rfl rfl ?_)
      refine mj_T.iadd (b := 1) rfl ?_
      rw [show ((s * 702 : Nat) : Int) + 1 = ((s * 702 + 1 : Nat) : Int) by omega]
      (first | refine mj_T.gb C rfl ?_ | refine mj_T.pl rfl rfl rfl rfl ?_)
      refine mj_T.xst C rfl ⟨by omega, by omega⟩ ⟨by omega, by omega⟩ ?_
      refine mj_T.ret rfl rfl rfl (hend (upd bg (s * 702 + 1) (jn (jnl x))) ?_ ?_ (fun j hj => ?_) (fun j hj => ?_))
      · unfold upd; rw [if_neg (by omega)]; exact h1
      · unfold upd; rw [if_pos rfl]
      · unfold upd; rw [if_neg (by omega)]; exact h2 j hj
      · unfold upd; rw [if_neg (by omega)]; exact h3 j hj
    · simp only [jc, decide_eq_false_iff_not] at hc; omega
  | succ d ih =>
    intro i bg hid h1 h2 h3
    have hne := jnl_lt.mp (show i < jnl x by omega)
    have hle := Nat.div_le_self x (jB ^ i)
    have hlt := jlb_lt x i
    have hlim : x / jB ^ i % 1000000000 = jlb x i := rfl
    have hdiv : x / jB ^ i / 1000000000 = x / jB ^ (i + 1) := by rw [Nat.div_div_eq_div_mul, Nat.pow_succ]
    generalize hy : x / jB ^ i = y at *
    iterate 2 (first | refine mj_T.gb C rfl ?_ | refine mj_T.pl rfl rfl rfl rfl ?_)
    refine mj_T.lif (b := 0) rfl rfl ⟨by omega, by omega⟩ ⟨by omega, by omega⟩ (fun hc => ?_) (fun hc => ?_)
    · simp only [jc, decide_eq_true_eq] at hc; omega
    · iterate 4 (first | refine mj_T.gb C rfl ?_ | refine mj_T.pl rfl rfl rfl rfl ?_)
      refine mj_T.iadd (b := 2) rfl ?_
      (first | refine mj_T.gb C rfl ?_ | refine mj_T.pl rfl rfl rfl rfl ?_)
      refine mj_T.iadd rfl ?_
      rw [show ((s * 702 : Nat) : Int) + 2 + (i : Int) = ((s * 702 + 2 + i : Nat) : Int) by omega]
      iterate 2 (first | refine mj_T.gb C rfl ?_ | refine mj_T.pl rfl rfl rfl rfl ?_)
      refine mj_T.lrem (b := 1000000000) rfl ⟨by omega, by omega⟩ ⟨by omega, by omega⟩ (by omega) ?_
      refine mj_T.lneg rfl ?_
      rw [show -(-((y : Nat) : Int)).tmod 1000000000 = ((jlb x i : Nat) : Int) by rw [Int.neg_tmod, Int.neg_neg, ← hlim]; rfl]
      refine mj_T.l2i rfl ?_
      refine mj_T.xst C rfl ⟨by omega, by omega⟩ ⟨by omega, by omega⟩ ?_
      refine mj_T.iinc (a := i) rfl rfl ?_
      iterate 2 (first | refine mj_T.gb C rfl ?_ | refine mj_T.pl rfl rfl rfl rfl ?_)
      refine mj_T.ldiv (b := 1000000000) rfl ⟨by omega, by omega⟩ ⟨by omega, by omega⟩ (by omega) ?_
      rw [show (-((y : Nat) : Int)).tdiv 1000000000 = -((x / jB ^ (i + 1) : Nat) : Int) by rw [Int.neg_tdiv, ← hdiv]; rfl]
      iterate 2 (first | refine mj_T.gb C rfl ?_ | refine mj_T.pl rfl rfl rfl rfl ?_)
      refine ih (i + 1) (upd bg (s * 702 + 2 + i) (jn (jlb x i))) (by omega) ?_ (fun j hj => ?_) (fun j hj => ?_)
      · unfold upd; rw [if_neg (by omega)]; exact h1
      · unfold upd
        by_cases h : j = i
        · subst h; rw [if_pos rfl]
        · rw [if_neg (by omega)]; exact h2 j (by omega)
      · unfold upd; rw [if_neg (by omega)]; exact h3 j hj
theorem jq_sets {D s : Nat} {v : Int} {hp : mj_H} {q0 q1 : Nat} {fs : List Value} {bg : Nat → Int32} (C : jC hp q0 q1 fs) (hs : s < 665) (hv : jR v) :
    mj_Ok (D + 1) 181 [.ref q0, .int (jn s), .long (jl v)] (jX hp q1 bg) (fun r => ∃ bg' : Nat → Int32, jrs bg' s v ∧ jrf bg bg' s ∧ r = (.inl none, jX hp q1 bg')) := by
  have hx2 : v.natAbs ≤ 9223372036854775808 := by have := hv.1; have := hv.2; omega
  have hnl : jnl v.natAbs ≤ 3 := jnl_le_lt.mpr (by rw [show jB ^ 3 = 1000000000000000000000000000 from rfl]; omega)
  refine mj_Ok.of (M := mj_m181) rfl rfl rfl ?_
  iterate 2 (first | refine mj_T.gb C rfl ?_ | refine mj_T.pl rfl rfl rfl rfl ?_)
  refine mj_T.imul (b := 702) rfl ?_
  rw [show (s : Int) * 702 = ((s * 702 : Nat) : Int) by omega]
  have k50 : ∀ (w : Int) (bg1 : Nat → Int32), w = -((v.natAbs : Nat) : Int) → bg1 = upd bg (s * 702) (jn (jsg v)) → mj_T D mj_m181 50 [some (.ref q0), some (.int (jn s)), some (.long (jl v)), none, some (.int (jn (s * 702 : Nat))), some (.int (jn 0)), none, none] [.long (jl w)] (jX hp q1 bg1)
      (fun r => ∃ bg' : Nat → Int32, jrs bg' s v ∧ jrf bg bg' s ∧ r = (.inl none, jX hp q1 bg')) := by
    intro w bg1 hw hb
    subst hw
    subst hb
    (first | refine mj_T.gb C rfl ?_ | refine mj_T.pl rfl rfl rfl rfl ?_)
    refine mj_T.eq (jq_sets_loop C (x := v.natAbs) (v := v) (bg0 := upd bg (s * 702) (jn (jsg v))) hs (by omega) hx2 (fun bg' h1 h2 h3 h4 => ⟨bg', ⟨?_, h2, h3, by omega⟩, fun j hj => ?_, rfl⟩) (jnl v.natAbs) 0 _ (by omega) rfl (fun j hj => by omega) (fun j _ => rfl)) rfl ?_ rfl rfl
    · rw [Nat.pow_zero, Nat.div_one]; rfl
    · rw [h1]; exact if_pos rfl
    · rw [h4 j hj]; exact if_neg (by omega)
  have k34 : ∀ z : Int, z = jsg v → mj_T D mj_m181 34 [some (.ref q0), some (.int (jn s)), some (.long (jl v)), none, some (.int (jn (s * 702 : Nat))), none, none, none] [.int (jn z), .int (jn (s * 702 : Nat)), .ref q1] (jX hp q1 bg)
      (fun r => ∃ bg' : Nat → Int32, jrs bg' s v ∧ jrf bg bg' s ∧ r = (.inl none, jX hp q1 bg')) := by
    intro z hz
    subst hz
    refine mj_T.xst C rfl ⟨by omega, by omega⟩ ⟨by omega, by omega⟩ ?_
    iterate 4 (first | refine mj_T.gb C rfl ?_ | refine mj_T.pl rfl rfl rfl rfl ?_)
    refine mj_T.lif (b := 0) rfl rfl hv ⟨by omega, by omega⟩ (fun hc => ?_) (fun hc => ?_)
    · simp only [jc, decide_eq_true_eq] at hc
      (first | refine mj_T.gb C rfl ?_ | refine mj_T.pl rfl rfl rfl rfl ?_)
      exact k50 v _ (by omega) rfl
    · simp only [jc, decide_eq_false_iff_not] at hc
      (first | refine mj_T.gb C rfl ?_ | refine mj_T.pl rfl rfl rfl rfl ?_)
      refine mj_T.lneg rfl ?_
      (first | refine mj_T.gb C rfl ?_ | refine mj_T.pl rfl rfl rfl rfl ?_)
      exact k50 (-v) _ (by omega) rfl
  iterate 6 (first | refine mj_T.gb C rfl ?_ | refine mj_T.pl rfl rfl rfl rfl ?_)
  refine mj_T.lif (b := 0) rfl rfl hv ⟨by omega, by omega⟩ (fun hc => ?_) (fun hc => ?_)
  · simp only [jc, decide_eq_true_eq] at hc
    iterate 2 (first | refine mj_T.gb C rfl ?_ | refine mj_T.pl rfl rfl rfl rfl ?_)
    refine mj_T.lif (b := 0) rfl rfl hv ⟨by omega, by omega⟩ (fun hc2 => ?_) (fun hc2 => ?_)
    · simp only [jc, decide_eq_true_eq] at hc2
      (first | refine mj_T.gb C rfl ?_ | refine mj_T.pl rfl rfl rfl rfl ?_)
      exact k34 0 (by unfold jsg; rw [if_neg (by omega), if_neg (by omega)])
    · simp only [jc, decide_eq_false_iff_not] at hc2
      iterate 2 (first | refine mj_T.gb C rfl ?_ | refine mj_T.pl rfl rfl rfl rfl ?_)
      exact k34 (-1) (jsg_neg (by omega)).symm
  · simp only [jc, decide_eq_false_iff_not] at hc
    iterate 2 (first | refine mj_T.gb C rfl ?_ | refine mj_T.pl rfl rfl rfl rfl ?_)
    exact k34 1 (jsg_pos (by omega)).symm
section MJR2
variable {D : Nat} {hp : mj_H} {q0 q1 : Nat} {fs : List Value} {bg : Nat → Int32}
theorem jq_trims_loop (C : jC hp q0 q1 fs) {s n x : Nat} {g0 : Int} (hs : s < 665) (hn : n ≤ 700) (hx : jnl x ≤ n) (hsg : bg (s * 702) = jn g0) (hl : ∀ j, j < n → bg (s * 702 + 2 + j) = jn (jlb x j)) {Q : mj_R → Prop}
    (hend : ∀ bg' : Nat → Int32, bg' (s * 702) = jn (if x = 0 then 0 else g0) → bg' (s * 702 + 1) = jn (jnl x) → (∀ j, j < n → bg' (s * 702 + 2 + j) = jn (jlb x j)) → jrf bg bg' s → Q (.inl none, jX hp q1 bg')) :
    ∀ (d k : Nat), k = jnl x + d → k ≤ n →
      mj_T D mj_m183 2 [some (.ref q0), some (.int (jn s)), some (.int (jn n)), some (.int (jn k))] [] (jX hp q1 bg) Q := by
  have fin : mj_T D mj_m183 29 [some (.ref q0), some (.int (jn s)), some (.int (jn n)), some (.int (jn (jnl x)))] [] (jX hp q1 bg) Q := by
    iterate 4 (first | refine mj_T.gb C rfl ?_ | refine mj_T.pl rfl rfl rfl rfl ?_)
    refine mj_T.imul (b := 702) rfl ?_
    (first | refine mj_T.gb C rfl ?_ | refine mj_T.pl rfl rfl rfl rfl ?_)
    refine mj_T.iadd (b := 1) rfl ?_
    rw [show (s : Int) * 702 + 1 = ((s * 702 + 1 : Nat) : Int) by omega]
    (first | refine mj_T.gb C rfl ?_ | refine mj_T.pl rfl rfl rfl rfl ?_)
    refine mj_T.xst C rfl ⟨by omega, by omega⟩ ⟨by omega, by omega⟩ ?_
    (first | refine mj_T.gb C rfl ?_ | refine mj_T.pl rfl rfl rfl rfl ?_)
    refine mj_T.if0 rfl ⟨by omega, by omega⟩ (fun hc => ?_) (fun hc => ?_)
    · simp only [jc, Bool.not_eq_true', decide_eq_false_iff_not] at hc
      have h0 : x ≠ 0 := fun q => hc (by rw [q]; exact congrArg Int.ofNat jnl_zero)
      rw [if_neg h0] at hend
      refine mj_T.ret rfl rfl rfl (hend (upd bg (s * 702 + 1) (jn (jnl x))) ?_ ?_ (fun j hj => ?_) (fun j hj => ?_))
      · unfold upd; rw [if_neg (by omega)]; exact hsg
      · unfold upd; exact if_pos rfl
      · unfold upd; rw [if_neg (by omega)]; exact hl j hj
      · unfold upd; exact if_neg (by omega)
    · simp only [jc, Bool.not_eq_false', decide_eq_true_eq] at hc
      have h0 : x = 0 := jnl_eq0.mp (by omega)
      rw [if_pos h0] at hend
      iterate 4 (first | refine mj_T.gb C rfl ?_ | refine mj_T.pl rfl rfl rfl rfl ?_)
      refine mj_T.imul (b := 702) rfl ?_
      rw [show (s : Int) * 702 = ((s * 702 : Nat) : Int) by omega]
      (first | refine mj_T.gb C rfl ?_ | refine mj_T.pl rfl rfl rfl rfl ?_)
      refine mj_T.xst C rfl ⟨by omega, by omega⟩ ⟨by omega, by omega⟩ ?_
      refine mj_T.ret rfl rfl rfl (hend (upd (upd bg (s * 702 + 1) (jn (jnl x))) (s * 702) (jn 0)) ?_ ?_ (fun j hj => ?_) (fun j hj => ?_))
      · unfold upd; exact if_pos rfl
      · unfold upd; rw [if_neg (by omega)]; exact if_pos rfl
      · unfold upd; rw [if_neg (by omega), if_neg (by omega)]; exact hl j hj
      · unfold upd; rw [if_neg (by omega)]; exact if_neg (by omega)
  intro d
  induction d with
  | zero =>
    intro k hk hkn
    have ek : k = jnl x := by omega
    subst ek
    (first | refine mj_T.gb C rfl ?_ | refine mj_T.pl rfl rfl rfl rfl ?_)
    refine mj_T.if0 rfl ⟨by omega, by omega⟩ (fun hc => fin) (fun hc => ?_)
    simp only [jc, decide_eq_false_iff_not] at hc
    obtain ⟨p, hp⟩ : ∃ p, jnl x = p + 1 := ⟨jnl x - 1, by omega⟩
    have htop := jlb_top hp.symm
    have hlt := jlb_lt x p
    iterate 4 (first | refine mj_T.gb C rfl ?_ | refine mj_T.pl rfl rfl rfl rfl ?_)
    refine mj_T.imul (b := 702) rfl ?_
    (first | refine mj_T.gb C rfl ?_ | refine mj_T.pl rfl rfl rfl rfl ?_)
    refine mj_T.iadd (b := 1) rfl ?_
    (first | refine mj_T.gb C rfl ?_ | refine mj_T.pl rfl rfl rfl rfl ?_)
    refine mj_T.iadd rfl ?_
    rw [show (s : Int) * 702 + 1 + ((jnl x : Nat) : Int) = ((s * 702 + 2 + p : Nat) : Int) by omega]
    refine mj_T.xld C rfl ⟨by omega, by omega⟩ ⟨by omega, by omega⟩ (hl p (by omega)) ?_
    refine mj_T.if0 rfl ⟨by omega, by omega⟩ (fun hc2 => fin) (fun hc2 => ?_)
    simp only [jc, Bool.not_eq_false', decide_eq_true_eq] at hc2
    omega
  | succ d ih =>
    intro k hk hkn
    have hz : jlb x (k - 1) = 0 := jlb_high (by omega)
    (first | refine mj_T.gb C rfl ?_ | refine mj_T.pl rfl rfl rfl rfl ?_)
    refine mj_T.if0 rfl ⟨by omega, by omega⟩ (fun hc => ?_) (fun hc => ?_)
    · simp only [jc, decide_eq_true_eq] at hc; omega
    iterate 4 (first | refine mj_T.gb C rfl ?_ | refine mj_T.pl rfl rfl rfl rfl ?_)
    refine mj_T.imul (b := 702) rfl ?_
    (first | refine mj_T.gb C rfl ?_ | refine mj_T.pl rfl rfl rfl rfl ?_)
    refine mj_T.iadd (b := 1) rfl ?_
    (first | refine mj_T.gb C rfl ?_ | refine mj_T.pl rfl rfl rfl rfl ?_)
    refine mj_T.iadd rfl ?_
    rw [show (s : Int) * 702 + 1 + (k : Int) = ((s * 702 + 2 + (k - 1) : Nat) : Int) by omega]
    refine mj_T.xld C rfl ⟨by omega, by omega⟩ ⟨by omega, by omega⟩ (hl (k - 1) (by omega)) ?_
    refine mj_T.if0 rfl ⟨by omega, by omega⟩ (fun hc2 => ?_) (fun hc2 => ?_)
    · simp only [jc, Bool.not_eq_true', decide_eq_false_iff_not] at hc2
      omega
    · refine mj_T.iinc (a := k) rfl rfl ?_
      (first | refine mj_T.gb C rfl ?_ | refine mj_T.pl rfl rfl rfl rfl ?_)
      rw [show (k : Int) + -1 = ((k - 1 : Nat) : Int) by omega]
      exact ih (k - 1) (by omega) (by omega)
theorem jq_trims (C : jC hp q0 q1 fs) {s n x : Nat} {g0 : Int} (hs : s < 665) (hn : n ≤ 700) (hx : jnl x ≤ n) (hsg : bg (s * 702) = jn g0) (hl : ∀ j, j < n → bg (s * 702 + 2 + j) = jn (jlb x j)) :
    mj_Ok (D + 1) 183 [.ref q0, .int (jn s), .int (jn n)] (jX hp q1 bg) (fun r => ∃ bg' : Nat → Int32, bg' (s * 702) = jn (if x = 0 then 0 else g0) ∧ bg' (s * 702 + 1) = jn (jnl x) ∧ (∀ j, j < n → bg' (s * 702 + 2 + j) = jn (jlb x j)) ∧ jrf bg bg' s ∧ r = (.inl none, jX hp q1 bg')) := by
  refine mj_Ok.of (M := mj_m183) rfl rfl rfl ?_
  iterate 2 (first | refine mj_T.gb C rfl ?_ | refine mj_T.pl rfl rfl rfl rfl ?_)
  exact jq_trims_loop C (x := x) (g0 := g0) hs hn hx hsg hl (fun bg' h1 h2 h3 h4 => ⟨bg', h1, h2, h3, h4, rfl⟩) (n - jnl x) n (by omega) (Nat.le_refl n)
end MJR2
section MJR3
variable {D : Nat} {hp : mj_H} {q0 q1 : Nat} {fs : List Value}
theorem jq_adds_loop (C : jC hp q0 q1 fs) {to a b x y : Nat} {bg0 : Nat → Int32} {sg : Int} (hto : to < 665) (ha : a < 665) (hb : b < 665) (hx : jnl x ≤ 699) (hy : jnl y ≤ 699) (h1 : ∀ j, j < jnl x → bg0 (a * 702 + 2 + j) = jn (jlb x j)) (h2 : ∀ j, j < jnl y → bg0 (b * 702 + 2 + j) = jn (jlb y j)) {Q : mj_R → Prop}
    (hend : ∀ (bg : Nat → Int32) (l10 : Option Value), (∀ j, j < max (jnl x) (jnl y) → bg (to * 702 + 2 + j) = jn (jlb (x + y) j)) → (∀ q, (∀ j, j < max (jnl x) (jnl y) → q ≠ to * 702 + 2 + j) → bg q = bg0 q) → mj_T D mj_m186 143 [some (.ref q0), some (.int (jn to)), some (.int (jn a)), some (.int (jn b)), some (.int (jn sg)), some (.int (jn (max (jnl x) (jnl y) : Nat))), some (.int (jn (jcy x y (max (jnl x) (jnl y))))), some (.int (jn (jnl x))), some (.int (jn (jnl y))), some (.int (jn (max (jnl x) (jnl y) : Nat))), l10] [] (jX hp q1 bg) Q) :
    ∀ (d k : Nat) (bg : Nat → Int32) (l10 : Option Value), k + d = max (jnl x) (jnl y) → (∀ j, j < k → bg (to * 702 + 2 + j) = jn (jlb (x + y) j)) → (∀ q, (∀ j, j < k → q ≠ to * 702 + 2 + j) → bg q = bg0 q) →
      mj_T D mj_m186 35 [some (.ref q0), some (.int (jn to)), some (.int (jn a)), some (.int (jn b)), some (.int (jn sg)), some (.int (jn (max (jnl x) (jnl y) : Nat))), some (.int (jn (jcy x y k))), some (.int (jn (jnl x))), some (.int (jn (jnl y))), some (.int (jn k)), l10] [] (jX hp q1 bg) Q := by
  intro d
  induction d with
  | zero =>
    intro k bg l10 hk g1 g2
    have ek : k = max (jnl x) (jnl y) := by omega
    subst ek
    iterate 2 (first | refine mj_T.gb C rfl ?_ | refine mj_T.pl rfl rfl rfl rfl ?_)
    refine mj_T.icmp rfl ⟨by omega, by omega⟩ ⟨by omega, by omega⟩ (fun hc => ?_) (fun hc => ?_)
    · exact hend bg l10 g1 g2
    · simp only [jc, decide_eq_false_iff_not] at hc; omega
  | succ d ih =>
    intro k bg l10 hk g1 g2
    have hcx := jcy_le x y k
    have hcx2 := jcy_le x y (k + 1)
    have hu1 := jlb_lt x k
    have hv1 := jlb_lt y k
    have hz1 := jlb_lt (x + y) k
    have hlim : jlb (x + y) k = (jlb x k + jlb y k + jcy x y k) % 1000000000 := jcy_limb x y k
    have hnx : jcy x y (k + 1) = (jlb x k + jlb y k + jcy x y k) / 1000000000 := jcy_next x y k
    iterate 2 (first | refine mj_T.gb C rfl ?_ | refine mj_T.pl rfl rfl rfl rfl ?_)
    refine mj_T.icmp rfl ⟨by omega, by omega⟩ ⟨by omega, by omega⟩ (fun hc => ?_) (fun hc => ?_)
    · simp only [jc, decide_eq_true_eq] at hc; omega
    clear hc
    have k112 : ∀ z s : Int, z = (jcy x y (k + 1) : Nat) → s = (jlb x k + jlb y k + jcy x y k : Nat) → mj_T D mj_m186 112 [some (.ref q0), some (.int (jn to)), some (.int (jn a)), some (.int (jn b)), some (.int (jn sg)), some (.int (jn (max (jnl x) (jnl y) : Nat))), some (.int (jn (jcy x y k))), some (.int (jn (jnl x))), some (.int (jn (jnl y))), some (.int (jn k)), some (.int (jn s))] [.int (jn z)] (jX hp q1 bg) Q := by
      intro z s hz hs
      subst hz
      iterate 5 (first | refine mj_T.gb C rfl ?_ | refine mj_T.pl rfl rfl rfl rfl ?_)
      refine mj_T.imul (b := 702) rfl ?_
      (first | refine mj_T.gb C rfl ?_ | refine mj_T.pl rfl rfl rfl rfl ?_)
      refine mj_T.iadd (b := 2) rfl ?_
      (first | refine mj_T.gb C rfl ?_ | refine mj_T.pl rfl rfl rfl rfl ?_)
      refine mj_T.iadd rfl ?_
      rw [show (to : Int) * 702 + 2 + (k : Int) = ((to * 702 + 2 + k : Nat) : Int) by omega]
      iterate 3 (first | refine mj_T.gb C rfl ?_ | refine mj_T.pl rfl rfl rfl rfl ?_)
      refine mj_T.imul (b := 1000000000) rfl ?_
      refine mj_T.isub rfl ?_
      rw [show s - ((jcy x y (k + 1) : Nat) : Int) * 1000000000 = ((jlb (x + y) k : Nat) : Int) by omega]
      refine mj_T.xst C rfl ⟨by omega, by omega⟩ ⟨by omega, by omega⟩ ?_
      refine mj_T.iinc (a := k) rfl rfl ?_
      (first | refine mj_T.gb C rfl ?_ | refine mj_T.pl rfl rfl rfl rfl ?_)
      refine ih (k + 1) (upd bg (to * 702 + 2 + k) (jn (jlb (x + y) k))) _ (by omega) (fun j hj => ?_) (fun q hq => ?_)
      · unfold upd
        by_cases h : j = k
        · subst h; rw [if_pos rfl]
        · rw [if_neg (by omega)]; exact g1 j (by omega)
      · unfold upd
        rw [if_neg (hq k (by omega))]
        exact g2 q (fun j hj => hq j (by omega))
    have k94 : ∀ u w : Int, u = (jlb x k : Nat) → w = (jlb y k : Nat) → mj_T D mj_m186 94 [some (.ref q0), some (.int (jn to)), some (.int (jn a)), some (.int (jn b)), some (.int (jn sg)), some (.int (jn (max (jnl x) (jnl y) : Nat))), some (.int (jn (jcy x y k))), some (.int (jn (jnl x))), some (.int (jn (jnl y))), some (.int (jn k)), l10] [.int (jn w), .int (jn u)] (jX hp q1 bg) Q := by
      intro u w hu hw
      refine mj_T.iadd rfl ?_
      (first | refine mj_T.gb C rfl ?_ | refine mj_T.pl rfl rfl rfl rfl ?_)
      refine mj_T.iadd rfl ?_
      iterate 3 (first | refine mj_T.gb C rfl ?_ | refine mj_T.pl rfl rfl rfl rfl ?_)
      refine mj_T.icmp (b := 1000000000) rfl ⟨by omega, by omega⟩ ⟨by omega, by omega⟩ (fun hc => ?_) (fun hc => ?_)
      · simp only [jc, decide_eq_true_eq] at hc
        (first | refine mj_T.gb C rfl ?_ | refine mj_T.pl rfl rfl rfl rfl ?_)
        exact k112 0 _ (by omega) (by omega)
      · simp only [jc, decide_eq_false_iff_not] at hc
        iterate 2 (first | refine mj_T.gb C rfl ?_ | refine mj_T.pl rfl rfl rfl rfl ?_)
        exact k112 1 _ (by omega) (by omega)
    have k68 : ∀ u : Int, u = (jlb x k : Nat) → mj_T D mj_m186 68 [some (.ref q0), some (.int (jn to)), some (.int (jn a)), some (.int (jn b)), some (.int (jn sg)), some (.int (jn (max (jnl x) (jnl y) : Nat))), some (.int (jn (jcy x y k))), some (.int (jn (jnl x))), some (.int (jn (jnl y))), some (.int (jn k)), l10] [.int (jn u)] (jX hp q1 bg) Q := by
      intro u hu
      iterate 2 (first | refine mj_T.gb C rfl ?_ | refine mj_T.pl rfl rfl rfl rfl ?_)
      refine mj_T.icmp rfl ⟨by omega, by omega⟩ ⟨by omega, by omega⟩ (fun hc => ?_) (fun hc => ?_)
      · simp only [jc, decide_eq_true_eq] at hc
        (first | refine mj_T.gb C rfl ?_ | refine mj_T.pl rfl rfl rfl rfl ?_)
        exact k94 u 0 hu (by rw [jlb_high (show jnl y ≤ k by omega)]; rfl)
      · simp only [jc, decide_eq_false_iff_not] at hc
        iterate 4 (first | refine mj_T.gb C rfl ?_ | refine mj_T.pl rfl rfl rfl rfl ?_)
        refine mj_T.imul (b := 702) rfl ?_
        (first | refine mj_T.gb C rfl ?_ | refine mj_T.pl rfl rfl rfl rfl ?_)
        refine mj_T.iadd (b := 2) rfl ?_
        (first | refine mj_T.gb C rfl ?_ | refine mj_T.pl rfl rfl rfl rfl ?_)
        refine mj_T.iadd rfl ?_
        rw [show (b : Int) * 702 + 2 + (k : Int) = ((b * 702 + 2 + k : Nat) : Int) by omega]
        refine mj_T.xld C rfl ⟨by omega, by omega⟩ ⟨by omega, by omega⟩ ((g2 (b * 702 + 2 + k) (fun j hj => by omega)).trans (h2 k (by omega))) ?_
        (first | refine mj_T.gb C rfl ?_ | refine mj_T.pl rfl rfl rfl rfl ?_)
        exact k94 u _ hu rfl
    iterate 2 (first | refine mj_T.gb C rfl ?_ | refine mj_T.pl rfl rfl rfl rfl ?_)
    refine mj_T.icmp rfl ⟨by omega, by omega⟩ ⟨by omega, by omega⟩ (fun hc => ?_) (fun hc => ?_)
    · simp only [jc, decide_eq_true_eq] at hc
      (first | refine mj_T.gb C rfl ?_ | refine mj_T.pl rfl rfl rfl rfl ?_)
      exact k68 0 (by rw [jlb_high (show jnl x ≤ k by omega)]; rfl)
    · simp only [jc, decide_eq_false_iff_not] at hc
      iterate 4 (first | refine mj_T.gb C rfl ?_ | refine mj_T.pl rfl rfl rfl rfl ?_)
      refine mj_T.imul (b := 702) rfl ?_
      (first | refine mj_T.gb C rfl ?_ | refine mj_T.pl rfl rfl rfl rfl ?_)
      refine mj_T.iadd (b := 2) rfl ?_
      (first | refine mj_T.gb C rfl ?_ | refine mj_T.pl rfl rfl rfl rfl ?_)
      refine mj_T.iadd rfl ?_
      rw [show (a : Int) * 702 + 2 + (k : Int) = ((a * 702 + 2 + k : Nat) : Int) by omega]
      refine mj_T.xld C rfl ⟨by omega, by omega⟩ ⟨by omega, by omega⟩ ((g2 (a * 702 + 2 + k) (fun j hj => by omega)).trans (h1 k (by omega))) ?_
      (first | refine mj_T.gb C rfl ?_ | refine mj_T.pl rfl rfl rfl rfl ?_)
      exact k68 _ rfl
end MJR3
theorem jq_addsSizes {D to a b : Nat} {u v : Int} {sg : Int} {hp : mj_H} {q0 q1 : Nat} {fs : List Value} {bg : Nat → Int32} (C : jC hp q0 q1 fs) (hto : to < 665) (ha : a < 665) (hb : b < 665) (hu : jrs bg a u) (hv : jrs bg b v) (hx : jnl u.natAbs ≤ 698) (hy : jnl v.natAbs ≤ 698) :
    mj_Ok (D + 2) 186 [.ref q0, .int (jn to), .int (jn a), .int (jn b), .int (jn sg)] (jX hp q1 bg) (fun r => ∃ bg' : Nat → Int32, bg' (to * 702) = jn (if u.natAbs + v.natAbs = 0 then 0 else sg) ∧ bg' (to * 702 + 1) = jn (jnl (u.natAbs + v.natAbs)) ∧ (∀ j, j < jnl (u.natAbs + v.natAbs) → bg' (to * 702 + 2 + j) = jn (jlb (u.natAbs + v.natAbs) j)) ∧ jrf bg bg' to ∧ r = (.inl none, jX hp q1 bg')) := by
  refine mj_Ok.of (M := mj_m186) rfl rfl rfl ?_
  iterate 2 (first | refine mj_T.gb C rfl ?_ | refine mj_T.pl rfl rfl rfl rfl ?_)
  refine mj_T.call (ins := .invokevirtual 52) rfl rfl (Nat.le_of_ble_eq_true rfl) (Nat.le_of_ble_eq_true rfl) (by simp [mj_recv, jX_a C]) rfl (jq_length (D := D) (jX_a C) C.2.1 (jX_b C) ha hu) (fun v' h' hq' => ?_) (fun i h' hq' => by cases hq')
  cases hq'
  iterate 2 (first | refine mj_T.gb C rfl ?_ | refine mj_T.pl rfl rfl rfl rfl ?_)
  refine mj_T.call (ins := .invokevirtual 52) rfl rfl (Nat.le_of_ble_eq_true rfl) (Nat.le_of_ble_eq_true rfl) (by simp [mj_recv, jX_a C]) rfl (jq_length (D := D) (jX_a C) C.2.1 (jX_b C) hb hv) (fun v' h' hq' => ?_) (fun i h' hq' => by cases hq')
  cases hq'
  refine mj_T.imax (a := (jnl u.natAbs : Nat)) (b := (jnl v.natAbs : Nat)) rfl rfl (Nat.le_of_ble_eq_true rfl) ⟨by omega, by omega⟩ ⟨by omega, by omega⟩ ?_
  rw [show max ((jnl u.natAbs : Nat) : Int) ((jnl v.natAbs : Nat) : Int) = ((max (jnl u.natAbs) (jnl v.natAbs) : Nat) : Int) by omega]
  iterate 5 (first | refine mj_T.gb C rfl ?_ | refine mj_T.pl rfl rfl rfl rfl ?_)
  refine mj_T.call (ins := .invokevirtual 52) rfl rfl (Nat.le_of_ble_eq_true rfl) (Nat.le_of_ble_eq_true rfl) (by simp [mj_recv, jX_a C]) rfl (jq_length (D := D) (jX_a C) C.2.1 (jX_b C) ha hu) (fun v' h' hq' => ?_) (fun i h' hq' => by cases hq')
  cases hq'
  iterate 3 (first | refine mj_T.gb C rfl ?_ | refine mj_T.pl rfl rfl rfl rfl ?_)
  refine mj_T.call (ins := .invokevirtual 52) rfl rfl (Nat.le_of_ble_eq_true rfl) (Nat.le_of_ble_eq_true rfl) (by simp [mj_recv, jX_a C]) rfl (jq_length (D := D) (jX_a C) C.2.1 (jX_b C) hb hv) (fun v' h' hq' => ?_) (fun i h' hq' => by cases hq')
  cases hq'
  iterate 3 (first | refine mj_T.gb C rfl ?_ | refine mj_T.pl rfl rfl rfl rfl ?_)
  refine mj_T.eq (jq_adds_loop C (x := u.natAbs) (y := v.natAbs) (sg := sg) hto ha hb (by omega) (by omega) hu.2.2.1 hv.2.2.1 (fun bg1 l10 g1 g2 => ?_) (max (jnl u.natAbs) (jnl v.natAbs)) 0 bg none (by omega) (fun j hj => by omega) (fun q _ => rfl)) rfl ?_ rfl rfl
  rotate_left
  · rw [jcy_zero]; rfl
  have htop := jcy_top (x := u.natAbs) (y := v.natAbs) (n := max (jnl u.natAbs) (jnl v.natAbs)) (by omega) (by omega)
  have hc := jcy_le u.natAbs v.natAbs (max (jnl u.natAbs) (jnl v.natAbs))
  have hN : max (jnl u.natAbs) (jnl v.natAbs) ≤ 698 := by omega
  generalize max (jnl u.natAbs) (jnl v.natAbs) = N at *
  iterate 4 (first | refine mj_T.gb C rfl ?_ | refine mj_T.pl rfl rfl rfl rfl ?_)
  refine mj_T.imul (b := 702) rfl ?_
  (first | refine mj_T.gb C rfl ?_ | refine mj_T.pl rfl rfl rfl rfl ?_)
  refine mj_T.iadd (b := 2) rfl ?_
  (first | refine mj_T.gb C rfl ?_ | refine mj_T.pl rfl rfl rfl rfl ?_)
  refine mj_T.iadd rfl ?_
  rw [show (to : Int) * 702 + 2 + (N : Int) = ((to * 702 + 2 + N : Nat) : Int) by omega]
  (first | refine mj_T.gb C rfl ?_ | refine mj_T.pl rfl rfl rfl rfl ?_)
  refine mj_T.xst C rfl ⟨by omega, by omega⟩ ⟨by omega, by omega⟩ ?_
  iterate 4 (first | refine mj_T.gb C rfl ?_ | refine mj_T.pl rfl rfl rfl rfl ?_)
  refine mj_T.imul (b := 702) rfl ?_
  rw [show (to : Int) * 702 = ((to * 702 : Nat) : Int) by omega]
  (first | refine mj_T.gb C rfl ?_ | refine mj_T.pl rfl rfl rfl rfl ?_)
  refine mj_T.xst C rfl ⟨by omega, by omega⟩ ⟨by omega, by omega⟩ ?_
  iterate 4 (first | refine mj_T.gb C rfl ?_ | refine mj_T.pl rfl rfl rfl rfl ?_)
  refine mj_T.iadd rfl ?_
  rw [show (N : Int) + ((jcy u.natAbs v.natAbs N : Nat) : Int) = ((N + jcy u.natAbs v.natAbs N : Nat) : Int) by omega]
  refine mj_T.call (ins := .invokevirtual 80) rfl rfl (Nat.le_of_ble_eq_true rfl) (Nat.le_of_ble_eq_true rfl) (by simp [mj_recv, jX_a C]) rfl (jq_trims (D := D) C (bg := upd (upd bg1 (to * 702 + 2 + N) (jn (jcy u.natAbs v.natAbs N))) (to * 702) (jn sg)) (x := u.natAbs + v.natAbs) (g0 := sg) (n := N + jcy u.natAbs v.natAbs N) hto (by omega) htop.2 (if_pos rfl) (fun j hj => ?_)) (fun v' h' hq' => ?_) (fun i h' hq' => by obtain ⟨_, _, _, _, _, h⟩ := hq'; cases h)
  · unfold upd
    rw [if_neg (by omega)]
    by_cases h : j = N
    · subst h; rw [if_pos rfl, htop.1]
    · rw [if_neg (by omega)]; exact g1 j (by omega)
  · obtain ⟨bg', e1, e2, e3, e4, h⟩ := hq'
    cases h
    refine mj_T.ret rfl rfl rfl ⟨bg', e1, e2, fun j hj => e3 j (Nat.lt_of_lt_of_le hj htop.2), fun q hq => ?_, rfl⟩
    rw [e4 q hq]
    unfold upd
    rw [if_neg (by omega), if_neg (by omega)]
    exact g2 q (fun j hj => by omega)
/-! Of the reference and of numbers (as in p1, part 78n). -/
def jcm (x y : Nat) : Int := if x < y then -1 else if y < x then 1 else 0
theorem jcm_range (x y : Nat) : -1 ≤ jcm x y ∧ jcm x y ≤ 1 := by unfold jcm; (repeat' split) <;> omega
theorem jcm_lt {x y : Nat} (h : x < y) : jcm x y = -1 := by unfold jcm; rw [if_pos h]
theorem jcm_gt {x y : Nat} (h : y < x) : jcm x y = 1 := by unfold jcm; rw [if_neg (by omega), if_pos h]
theorem jcm_eq {x y : Nat} (h : x = y) : jcm x y = 0 := by unfold jcm; rw [if_neg (by omega), if_neg (by omega)]
section JX3
variable {D : Nat} {hp : mj_H} {q0 q1 : Nat} {fs : List Value} {bg : Nat → Int32}
/-- the copy of a row's piece within the row -/
theorem jX_cpy (C : jC hp q0 q1 fs) {s d n : Nat} (h1 : s + n ≤ 466830) (h2 : d + n ≤ 466830) : mj_prim 4 [.int (jn (n : Nat)), .int (jn (d : Nat)), .ref q1, .int (jn (s : Nat)), .ref q1] (jX hp q1 bg) = some ([], jX hp q1 (va_cpy bg bg s d n)) := by
  have hs : jr (s : Int) := ⟨by omega, by omega⟩
  have hd : jr (d : Int) := ⟨by omega, by omega⟩
  have hn : jr (n : Int) := ⟨by omega, by omega⟩
  have z : jr 0 := ⟨by omega, by omega⟩
  have e1 : (jn (s : Nat)).toNatClampNeg = s := by rw [jn_nat (by omega) hs]; rfl
  have e2 : (jn (d : Nat)).toNatClampNeg = d := by rw [jn_nat (by omega) hd]; rfl
  have e3 : (jn (n : Nat)).toNatClampNeg = n := by rw [jn_nat (by omega) hn]; rfl
  have g : ∀ k : Nat, jr (k : Int) → (0 : Int32) ≤ jn (k : Nat) := fun k hk => by
    rw [show (0 : Int32) = jn 0 from rfl, jn_le z hk]; omega
  simp only [mj_prim, jX_b C, e1, e2, e3]
  rw [if_pos ⟨Nat.le_of_ble_eq_true rfl, trivial, Or.inl trivial, g s hs, g d hd, g n hn, h1, h2, by simp [mj_cpok, mj_isint]⟩]
  have e : va_cpy (fun j => Value.int (bg j)) (fun j => Value.int (bg j)) s d n = fun j => .int (va_cpy bg bg s d n j) := by
    funext j
    unfold va_cpy
    split <;> rfl
  rw [e, jX_set]
theorem jq_copies (C : jC hp q0 q1 fs) {to s : Nat} {v : Int} (hto : to < 665) (hs : s < 665) (hv : jrs bg s v) :
    mj_Ok (D + 2) 182 [.ref q0, .int (jn to), .int (jn s)] (jX hp q1 bg) (fun r => ∃ bg' : Nat → Int32, jrs bg' to v ∧ jrf bg bg' to ∧ r = (.inl none, jX hp q1 bg')) := by
  have h4 := hv.2.2.2
  refine mj_Ok.of (M := mj_m182) rfl rfl rfl ?_
  iterate 4 (first | refine mj_T.gb C rfl ?_ | refine mj_T.pl rfl rfl rfl rfl ?_)
  refine mj_T.imul (b := 702) rfl ?_
  rw [show (s : Int) * 702 = ((s * 702 : Nat) : Int) by omega]
  iterate 4 (first | refine mj_T.gb C rfl ?_ | refine mj_T.pl rfl rfl rfl rfl ?_)
  refine mj_T.imul (b := 702) rfl ?_
  rw [show (to : Int) * 702 = ((to * 702 : Nat) : Int) by omega]
  iterate 2 (first | refine mj_T.gb C rfl ?_ | refine mj_T.pl rfl rfl rfl rfl ?_)
  refine mj_T.call (ins := .invokevirtual 52) rfl rfl (Nat.le_of_ble_eq_true rfl) (Nat.le_of_ble_eq_true rfl) (by simp [mj_recv, jX_a C]) rfl (jq_length (D := D) (jX_a C) C.2.1 (jX_b C) hs hv) (fun v' h' hq' => ?_) (fun i h' hq' => by cases hq')
  cases hq'
  refine mj_T.pl rfl rfl rfl rfl ?_
  refine mj_T.iadd (b := 2) rfl ?_
  rw [show ((jnl v.natAbs : Nat) : Int) + 2 = ((jnl v.natAbs + 2 : Nat) : Int) by omega]
  refine mj_T.prim rfl rfl (jX_cpy C (by omega) (by omega)) ?_
  refine mj_T.ret rfl rfl rfl ⟨_, ⟨?_, ?_, fun j hj => ?_, h4⟩, fun j hj => ?_, rfl⟩
  · unfold va_cpy
    rw [if_pos (by omega), show s * 702 + (to * 702 - to * 702) = s * 702 by omega]
    exact hv.1
  · unfold va_cpy
    rw [if_pos (by omega), show s * 702 + (to * 702 + 1 - to * 702) = s * 702 + 1 by omega]
    exact hv.2.1
  · unfold va_cpy
    rw [if_pos (by omega), show s * 702 + (to * 702 + 2 + j - to * 702) = s * 702 + 2 + j by omega]
    exact hv.2.2.1 j hj
  · unfold va_cpy
    rw [if_neg (by omega)]
theorem jq_cmp_loop (C : jC hp q0 q1 fs) {s1 s2 : Nat} {u v : Int} (hs1 : s1 < 665) (hs2 : s2 < 665) (hu : jrs bg s1 u) (hv : jrs bg s2 v) {Q : mj_R → Prop} (hend : Q (.inl (some (.int (jn (jcm u.natAbs v.natAbs)))), jX hp q1 bg)) :
    ∀ k : Nat, k ≤ 700 → u.natAbs / jB ^ k = v.natAbs / jB ^ k → mj_T (D + 2) mj_m184 40 [some (.ref q0), some (.int (jn s1)), some (.int (jn s2)), some (.int (jn ((k : Int) - 1)))] [] (jX hp q1 bg) Q := by
  intro k
  induction k with
  | zero =>
    intro hk he
    refine mj_T.pl rfl rfl rfl rfl ?_
    refine mj_T.if0 rfl ⟨by omega, by omega⟩ (fun hc => ?_) (fun hc => ?_)
    · rw [Nat.pow_zero, Nat.div_one, Nat.div_one] at he
      rw [jcm_eq he] at hend
      refine mj_T.pl rfl rfl rfl rfl ?_
      exact mj_T.ret rfl rfl rfl hend
    · simp only [jc, decide_eq_false_iff_not] at hc; omega
  | succ k ih =>
    intro hk he
    have hx1 := jlb_lt u.natAbs k
    have hy1 := jlb_lt v.natAbs k
    rw [show ((k + 1 : Nat) : Int) - 1 = (k : Int) by omega]
    refine mj_T.pl rfl rfl rfl rfl ?_
    refine mj_T.if0 rfl ⟨by omega, by omega⟩ (fun hc => ?_) (fun hc => ?_)
    · simp only [jc, decide_eq_true_eq] at hc; omega
    clear hc
    iterate 3 refine mj_T.pl rfl rfl rfl rfl ?_
    refine mj_T.call (ins := .invokevirtual 64) rfl rfl (Nat.le_of_ble_eq_true rfl) (Nat.le_of_ble_eq_true rfl) (by simp [mj_recv, jX_a C]) rfl (jq_limb (D := D) (jX_a C) C.2.1 (jX_b C) hs1 (show k ≤ 700 by omega) hu) (fun v' h' hq' => ?_) (fun i h' hq' => by cases hq')
    cases hq'
    iterate 3 refine mj_T.pl rfl rfl rfl rfl ?_
    refine mj_T.call (ins := .invokevirtual 64) rfl rfl (Nat.le_of_ble_eq_true rfl) (Nat.le_of_ble_eq_true rfl) (by simp [mj_recv, jX_a C]) rfl (jq_limb (D := D) (jX_a C) C.2.1 (jX_b C) hs2 (show k ≤ 700 by omega) hv) (fun v' h' hq' => ?_) (fun i h' hq' => by cases hq')
    cases hq'
    refine mj_T.icmp rfl ⟨by omega, by omega⟩ ⟨by omega, by omega⟩ (fun hc => ?_) (fun hc => ?_)
    · simp only [jc, decide_eq_true_eq] at hc
      refine mj_T.iinc (a := k) rfl rfl ?_
      refine mj_T.pl rfl rfl rfl rfl ?_
      exact ih (by omega) (jeq_of he (by omega))
    · simp only [jc, decide_eq_false_iff_not] at hc
      iterate 3 refine mj_T.pl rfl rfl rfl rfl ?_
      refine mj_T.call (ins := .invokevirtual 64) rfl rfl (Nat.le_of_ble_eq_true rfl) (Nat.le_of_ble_eq_true rfl) (by simp [mj_recv, jX_a C]) rfl (jq_limb (D := D) (jX_a C) C.2.1 (jX_b C) hs1 (show k ≤ 700 by omega) hu) (fun v' h' hq' => ?_) (fun i h' hq' => by cases hq')
      cases hq'
      iterate 3 refine mj_T.pl rfl rfl rfl rfl ?_
      refine mj_T.call (ins := .invokevirtual 64) rfl rfl (Nat.le_of_ble_eq_true rfl) (Nat.le_of_ble_eq_true rfl) (by simp [mj_recv, jX_a C]) rfl (jq_limb (D := D) (jX_a C) C.2.1 (jX_b C) hs2 (show k ≤ 700 by omega) hv) (fun v' h' hq' => ?_) (fun i h' hq' => by cases hq')
      cases hq'
      refine mj_T.icmp rfl ⟨by omega, by omega⟩ ⟨by omega, by omega⟩ (fun hc2 => ?_) (fun hc2 => ?_)
      · simp only [jc, decide_eq_true_eq] at hc2
        rw [jcm_gt (jlt_of he.symm (show jlb v.natAbs k < jlb u.natAbs k by omega))] at hend
        refine mj_T.pl rfl rfl rfl rfl ?_
        exact mj_T.ret rfl rfl rfl hend
      · simp only [jc, decide_eq_false_iff_not] at hc2
        rw [jcm_lt (jlt_of he (show jlb u.natAbs k < jlb v.natAbs k by omega))] at hend
        iterate 2 refine mj_T.pl rfl rfl rfl rfl ?_
        exact mj_T.ret rfl rfl rfl hend
theorem jq_cmp (C : jC hp q0 q1 fs) {s1 s2 : Nat} {u v : Int} (hs1 : s1 < 665) (hs2 : s2 < 665) (hu : jrs bg s1 u) (hv : jrs bg s2 v) :
    mj_Ok (D + 3) 184 [.ref q0, .int (jn s1), .int (jn s2)] (jX hp q1 bg) (fun r => r = (.inl (some (.int (jn (jcm u.natAbs v.natAbs)))), jX hp q1 bg)) := by
  have k1 := hu.2.2.2
  have k2 := hv.2.2.2
  refine mj_Ok.of (M := mj_m184) rfl rfl rfl ?_
  iterate 2 refine mj_T.pl rfl rfl rfl rfl ?_
  refine mj_T.call (ins := .invokevirtual 52) rfl rfl (Nat.le_of_ble_eq_true rfl) (Nat.le_of_ble_eq_true rfl) (by simp [mj_recv, jX_a C]) rfl (jq_length (D := D + 1) (jX_a C) C.2.1 (jX_b C) hs1 hu) (fun v' h' hq' => ?_) (fun i h' hq' => by cases hq')
  cases hq'
  iterate 2 refine mj_T.pl rfl rfl rfl rfl ?_
  refine mj_T.call (ins := .invokevirtual 52) rfl rfl (Nat.le_of_ble_eq_true rfl) (Nat.le_of_ble_eq_true rfl) (by simp [mj_recv, jX_a C]) rfl (jq_length (D := D + 1) (jX_a C) C.2.1 (jX_b C) hs2 hv) (fun v' h' hq' => ?_) (fun i h' hq' => by cases hq')
  cases hq'
  refine mj_T.icmp rfl ⟨by omega, by omega⟩ ⟨by omega, by omega⟩ (fun hc => ?_) (fun hc => ?_)
  · simp only [jc, decide_eq_true_eq] at hc
    iterate 2 refine mj_T.pl rfl rfl rfl rfl ?_
    refine mj_T.call (ins := .invokevirtual 52) rfl rfl (Nat.le_of_ble_eq_true rfl) (Nat.le_of_ble_eq_true rfl) (by simp [mj_recv, jX_a C]) rfl (jq_length (D := D + 1) (jX_a C) C.2.1 (jX_b C) hs1 hu) (fun v' h' hq' => ?_) (fun i h' hq' => by cases hq')
    cases hq'
    refine mj_T.pl rfl rfl rfl rfl ?_
    refine mj_T.isub (b := 1) rfl ?_
    refine mj_T.pl rfl rfl rfl rfl ?_
    have e1 := jnl_le.mp (Nat.le_refl (jnl u.natAbs))
    have e2 := jnl_le.mp (show jnl v.natAbs ≤ jnl u.natAbs by omega)
    exact jq_cmp_loop (Q := fun r => r = (.inl (some (.int (jn (jcm u.natAbs v.natAbs)))), jX hp q1 bg)) C hs1 hs2 hu hv rfl (jnl u.natAbs) k1 (by rw [e1, e2])
  · simp only [jc, decide_eq_false_iff_not] at hc
    iterate 2 refine mj_T.pl rfl rfl rfl rfl ?_
    refine mj_T.call (ins := .invokevirtual 52) rfl rfl (Nat.le_of_ble_eq_true rfl) (Nat.le_of_ble_eq_true rfl) (by simp [mj_recv, jX_a C]) rfl (jq_length (D := D + 1) (jX_a C) C.2.1 (jX_b C) hs1 hu) (fun v' h' hq' => ?_) (fun i h' hq' => by cases hq')
    cases hq'
    iterate 2 refine mj_T.pl rfl rfl rfl rfl ?_
    refine mj_T.call (ins := .invokevirtual 52) rfl rfl (Nat.le_of_ble_eq_true rfl) (Nat.le_of_ble_eq_true rfl) (by simp [mj_recv, jX_a C]) rfl (jq_length (D := D + 1) (jX_a C) C.2.1 (jX_b C) hs2 hv) (fun v' h' hq' => ?_) (fun i h' hq' => by cases hq')
    cases hq'
    refine mj_T.icmp rfl ⟨by omega, by omega⟩ ⟨by omega, by omega⟩ (fun hc2 => ?_) (fun hc2 => ?_)
    · simp only [jc, decide_eq_true_eq] at hc2
      rw [jcm_gt (jlt_nl (show jnl v.natAbs < jnl u.natAbs by omega))]
      refine mj_T.pl rfl rfl rfl rfl ?_
      exact mj_T.ret rfl rfl rfl rfl
    · simp only [jc, decide_eq_false_iff_not] at hc2
      rw [jcm_lt (jlt_nl (show jnl u.natAbs < jnl v.natAbs by omega))]
      iterate 2 refine mj_T.pl rfl rfl rfl rfl ?_
      exact mj_T.ret rfl rfl rfl rfl
theorem jq_takes_loop (C : jC hp q0 q1 fs) {to a b x y z : Nat} {bg0 : Nat → Int32} {sg : Int} (hto : to < 665) (ha : a < 665) (hb : b < 665) (hxz : x = z + y) (hx : jnl x ≤ 700) (h1 : ∀ j, j < jnl x → bg0 (a * 702 + 2 + j) = jn (jlb x j)) (h2 : ∀ j, j < jnl y → bg0 (b * 702 + 2 + j) = jn (jlb y j)) {Q : mj_R → Prop}
    (hend : ∀ (bg : Nat → Int32) (l7 l9 : Option Value), (∀ j, j < jnl x → bg (to * 702 + 2 + j) = jn (jlb z j)) → (∀ q, (∀ j, j < jnl x → q ≠ to * 702 + 2 + j) → bg q = bg0 q) → mj_T D mj_m187 115 [some (.ref q0), some (.int (jn to)), some (.int (jn a)), some (.int (jn b)), some (.int (jn sg)), some (.int (jn (jnl x))), some (.int (jn (jnl y))), l7, some (.int (jn (jnl x))), l9] [] (jX hp q1 bg) Q) :
    ∀ (d k : Nat) (bg : Nat → Int32) (l9 : Option Value), k + d = jnl x → (∀ j, j < k → bg (to * 702 + 2 + j) = jn (jlb z j)) → (∀ q, (∀ j, j < k → q ≠ to * 702 + 2 + j) → bg q = bg0 q) →
      mj_T D mj_m187 20 [some (.ref q0), some (.int (jn to)), some (.int (jn a)), some (.int (jn b)), some (.int (jn sg)), some (.int (jn (jnl x))), some (.int (jn (jnl y))), some (.int (jn (jcy z y k))), some (.int (jn k)), l9] [] (jX hp q1 bg) Q := by
  have hyx : jnl y ≤ jnl x := jnl_mono (by omega)
  intro d
  induction d with
  | zero =>
    intro k bg l9 hk g1 g2
    have ek : k = jnl x := by omega
    subst ek
    iterate 2 refine mj_T.pl rfl rfl rfl rfl ?_
    refine mj_T.icmp rfl ⟨by omega, by omega⟩ ⟨by omega, by omega⟩ (fun hc => ?_) (fun hc => ?_)
    · exact hend bg _ l9 g1 g2
    · simp only [jc, decide_eq_false_iff_not] at hc; omega
  | succ d ih =>
    intro k bg l9 hk g1 g2
    have hcx := jcy_le z y k
    have hcx2 := jcy_le z y (k + 1)
    have hu1 := jlb_lt x k
    have hv1 := jlb_lt y k
    have hz1 := jlb_lt z k
    have hlim : jlb (z + y) k = (jlb z k + jlb y k + jcy z y k) % 1000000000 := jcy_limb z y k
    have hnx : jcy z y (k + 1) = (jlb z k + jlb y k + jcy z y k) / 1000000000 := jcy_next z y k
    rw [← hxz] at hlim
    have hdm := Nat.div_add_mod (jlb z k + jlb y k + jcy z y k) 1000000000
    iterate 2 refine mj_T.pl rfl rfl rfl rfl ?_
    refine mj_T.icmp rfl ⟨by omega, by omega⟩ ⟨by omega, by omega⟩ (fun hc => ?_) (fun hc => ?_)
    · simp only [jc, decide_eq_true_eq] at hc; omega
    clear hc
    have k84 : ∀ w s : Int, w = (jcy z y (k + 1) : Nat) → s = (jlb z k : Int) - (jcy z y (k + 1) : Nat) * 1000000000 → mj_T D mj_m187 84 [some (.ref q0), some (.int (jn to)), some (.int (jn a)), some (.int (jn b)), some (.int (jn sg)), some (.int (jn (jnl x))), some (.int (jn (jnl y))), some (.int (jn (jcy z y k))), some (.int (jn k)), some (.int (jn s))] [.int (jn w)] (jX hp q1 bg) Q := by
      intro w s hw hs
      subst hw
      iterate 5 (first | refine mj_T.gb C rfl ?_ | refine mj_T.pl rfl rfl rfl rfl ?_)
      refine mj_T.imul (b := 702) rfl ?_
      refine mj_T.pl rfl rfl rfl rfl ?_
      refine mj_T.iadd (b := 2) rfl ?_
      refine mj_T.pl rfl rfl rfl rfl ?_
      refine mj_T.iadd rfl ?_
      rw [show (to : Int) * 702 + 2 + (k : Int) = ((to * 702 + 2 + k : Nat) : Int) by omega]
      iterate 3 refine mj_T.pl rfl rfl rfl rfl ?_
      refine mj_T.imul (b := 1000000000) rfl ?_
      refine mj_T.iadd rfl ?_
      rw [show s + ((jcy z y (k + 1) : Nat) : Int) * 1000000000 = ((jlb z k : Nat) : Int) by omega]
      refine mj_T.xst C rfl ⟨by omega, by omega⟩ ⟨by omega, by omega⟩ ?_
      refine mj_T.iinc (a := k) rfl rfl ?_
      refine mj_T.pl rfl rfl rfl rfl ?_
      refine ih (k + 1) (upd bg (to * 702 + 2 + k) (jn (jlb z k))) _ (by omega) (fun j hj => ?_) (fun q hq => ?_)
      · unfold upd
        by_cases h : j = k
        · subst h; rw [if_pos rfl]
        · rw [if_neg (by omega)]; exact g1 j (by omega)
      · unfold upd
        rw [if_neg (hq k (by omega))]
        exact g2 q (fun j hj => hq j (by omega))
    have k68 : ∀ w : Int, w = (jlb y k : Nat) → mj_T D mj_m187 68 [some (.ref q0), some (.int (jn to)), some (.int (jn a)), some (.int (jn b)), some (.int (jn sg)), some (.int (jn (jnl x))), some (.int (jn (jnl y))), some (.int (jn (jcy z y k))), some (.int (jn k)), l9] [.int (jn w), .int (jn (jlb x k : Nat))] (jX hp q1 bg) Q := by
      intro w hw
      refine mj_T.isub rfl ?_
      refine mj_T.pl rfl rfl rfl rfl ?_
      refine mj_T.isub rfl ?_
      iterate 2 refine mj_T.pl rfl rfl rfl rfl ?_
      refine mj_T.if0 rfl ⟨by omega, by omega⟩ (fun hc => ?_) (fun hc => ?_)
      · simp only [jc, decide_eq_true_eq] at hc
        refine mj_T.pl rfl rfl rfl rfl ?_
        exact k84 0 _ (by omega) (by omega)
      · simp only [jc, decide_eq_false_iff_not] at hc
        iterate 2 refine mj_T.pl rfl rfl rfl rfl ?_
        exact k84 1 _ (by omega) (by omega)
    iterate 4 (first | refine mj_T.gb C rfl ?_ | refine mj_T.pl rfl rfl rfl rfl ?_)
    refine mj_T.imul (b := 702) rfl ?_
    refine mj_T.pl rfl rfl rfl rfl ?_
    refine mj_T.iadd (b := 2) rfl ?_
    refine mj_T.pl rfl rfl rfl rfl ?_
    refine mj_T.iadd rfl ?_
    rw [show (a : Int) * 702 + 2 + (k : Int) = ((a * 702 + 2 + k : Nat) : Int) by omega]
    refine mj_T.xld C rfl ⟨by omega, by omega⟩ ⟨by omega, by omega⟩ ((g2 (a * 702 + 2 + k) (fun j hj => by omega)).trans (h1 k (by omega))) ?_
    iterate 2 refine mj_T.pl rfl rfl rfl rfl ?_
    refine mj_T.icmp rfl ⟨by omega, by omega⟩ ⟨by omega, by omega⟩ (fun hc => ?_) (fun hc => ?_)
    · simp only [jc, decide_eq_true_eq] at hc
      refine mj_T.pl rfl rfl rfl rfl ?_
      exact k68 0 (by rw [jlb_high (show jnl y ≤ k by omega)]; rfl)
    · simp only [jc, decide_eq_false_iff_not] at hc
      iterate 4 (first | refine mj_T.gb C rfl ?_ | refine mj_T.pl rfl rfl rfl rfl ?_)
      refine mj_T.imul (b := 702) rfl ?_
      refine mj_T.pl rfl rfl rfl rfl ?_
      refine mj_T.iadd (b := 2) rfl ?_
      refine mj_T.pl rfl rfl rfl rfl ?_
      refine mj_T.iadd rfl ?_
      rw [show (b : Int) * 702 + 2 + (k : Int) = ((b * 702 + 2 + k : Nat) : Int) by omega]
      refine mj_T.xld C rfl ⟨by omega, by omega⟩ ⟨by omega, by omega⟩ ((g2 (b * 702 + 2 + k) (fun j hj => by omega)).trans (h2 k (by omega))) ?_
      refine mj_T.pl rfl rfl rfl rfl ?_
      exact k68 _ rfl
theorem jq_takes (C : jC hp q0 q1 fs) {to a b : Nat} {u v sg : Int} (hto : to < 665) (ha : a < 665) (hb : b < 665) (hu : jrs bg a u) (hv : jrs bg b v) (hle : v.natAbs ≤ u.natAbs) :
    mj_Ok (D + 2) 187 [.ref q0, .int (jn to), .int (jn a), .int (jn b), .int (jn sg)] (jX hp q1 bg) (fun r => ∃ bg' : Nat → Int32, bg' (to * 702) = jn (if u.natAbs - v.natAbs = 0 then 0 else sg) ∧ bg' (to * 702 + 1) = jn (jnl (u.natAbs - v.natAbs)) ∧ (∀ j, j < jnl (u.natAbs - v.natAbs) → bg' (to * 702 + 2 + j) = jn (jlb (u.natAbs - v.natAbs) j)) ∧ jrf bg bg' to ∧ r = (.inl none, jX hp q1 bg')) := by
  have k1 := hu.2.2.2
  refine mj_Ok.of (M := mj_m187) rfl rfl rfl ?_
  iterate 2 refine mj_T.pl rfl rfl rfl rfl ?_
  refine mj_T.call (ins := .invokevirtual 52) rfl rfl (Nat.le_of_ble_eq_true rfl) (Nat.le_of_ble_eq_true rfl) (by simp [mj_recv, jX_a C]) rfl (jq_length (D := D) (jX_a C) C.2.1 (jX_b C) ha hu) (fun v' h' hq' => ?_) (fun i h' hq' => by cases hq')
  cases hq'
  iterate 3 refine mj_T.pl rfl rfl rfl rfl ?_
  refine mj_T.call (ins := .invokevirtual 52) rfl rfl (Nat.le_of_ble_eq_true rfl) (Nat.le_of_ble_eq_true rfl) (by simp [mj_recv, jX_a C]) rfl (jq_length (D := D) (jX_a C) C.2.1 (jX_b C) hb hv) (fun v' h' hq' => ?_) (fun i h' hq' => by cases hq')
  cases hq'
  iterate 5 refine mj_T.pl rfl rfl rfl rfl ?_
  have hzx : jnl (u.natAbs - v.natAbs) ≤ jnl u.natAbs := jnl_mono (Nat.sub_le _ _)
  refine mj_T.eq (jq_takes_loop C (x := u.natAbs) (y := v.natAbs) (z := u.natAbs - v.natAbs) (sg := sg) hto ha hb (by omega) k1 hu.2.2.1 hv.2.2.1 (fun bg1 l7 l9 g1 g2 => ?_) (jnl u.natAbs) 0 bg none (by omega) (fun j hj => by omega) (fun q _ => rfl)) rfl ?_ rfl rfl
  rotate_left
  · rw [jcy_zero]; rfl
  generalize u.natAbs - v.natAbs = z at *
  iterate 4 (first | refine mj_T.gb C rfl ?_ | refine mj_T.pl rfl rfl rfl rfl ?_)
  refine mj_T.imul (b := 702) rfl ?_
  rw [show (to : Int) * 702 = ((to * 702 : Nat) : Int) by omega]
  refine mj_T.pl rfl rfl rfl rfl ?_
  refine mj_T.xst C rfl ⟨by omega, by omega⟩ ⟨by omega, by omega⟩ ?_
  iterate 3 refine mj_T.pl rfl rfl rfl rfl ?_
  refine mj_T.call (ins := .invokevirtual 80) rfl rfl (Nat.le_of_ble_eq_true rfl) (Nat.le_of_ble_eq_true rfl) (by simp [mj_recv, jX_a C]) rfl (jq_trims (D := D) C (bg := upd bg1 (to * 702) (jn sg)) (x := z) (g0 := sg) (n := jnl u.natAbs) hto k1 hzx (if_pos rfl) (fun j hj => ?_)) (fun v' h' hq' => ?_) (fun i h' hq' => by obtain ⟨_, _, _, _, _, h⟩ := hq'; cases h)
  · unfold upd
    rw [if_neg (by omega)]
    exact g1 j hj
  · obtain ⟨bg', e1, e2, e3, e4, h⟩ := hq'
    cases h
    refine mj_T.ret rfl rfl rfl ⟨bg', e1, e2, fun j hj => e3 j (Nat.lt_of_lt_of_le hj hzx), fun q hq => ?_, rfl⟩
    rw [e4 q hq]
    unfold upd
    rw [if_neg (by omega)]
    exact g2 q (fun j hj => by omega)
end JX3
/-! Of the reference and of numbers (as in p1, part 78o). -/
theorem jsg_ne {v : Int} (h : v ≠ 0) : jsg v = 1 ∨ jsg v = -1 := by unfold jsg; (repeat' split) <;> omega
theorem jsg_eq0 {v : Int} (h : jsg v = 0) : v = 0 := by unfold jsg at h; (repeat' split at h) <;> omega
theorem jrs_of {bg : Nat → Int32} {s : Nat} {v g : Int} {x : Nat} (hx : v.natAbs = x) (h1 : bg (s * 702) = jn (if x = 0 then 0 else g)) (h2 : bg (s * 702 + 1) = jn (jnl x)) (h3 : ∀ j, j < jnl x → bg (s * 702 + 2 + j) = jn (jlb x j)) (hg : v ≠ 0 → g = jsg v) (hl : jnl x ≤ 700) : jrs bg s v := by
  subst hx
  refine ⟨?_, h2, h3, hl⟩
  rw [h1]
  by_cases hv : v = 0
  · rw [if_pos (by omega), hv]; rfl
  · rw [if_neg (by omega), hg hv]
section JX4
variable {D : Nat} {hp : mj_H} {q0 q1 : Nat} {fs : List Value} {bg : Nat → Int32}
theorem jq_adds (C : jC hp q0 q1 fs) {to a b : Nat} {u v f : Int} (hto : to < 665) (ha : a < 665) (hb : b < 665) (hf : f = 1 ∨ f = -1) (hu : jrs bg a u) (hv : jrs bg b v) (hz : jnl (u + f * v).natAbs ≤ 698) :
    mj_Ok (D + 4) 188 [.ref q0, .int (jn to), .int (jn a), .int (jn b), .int (jn f)] (jX hp q1 bg) (fun r => ∃ bg' : Nat → Int32, jrs bg' to (u + f * v) ∧ jrf bg bg' to ∧ r = (.inl none, jX hp q1 bg')) := by
  have hsu := jsg_range u
  have hsv := jsg_range v
  have hfv : f * jsg v = jsg (f * v) := by
    rcases hf with rfl | rfl
    · rw [Int.one_mul, Int.one_mul]
    · unfold jsg
      (repeat' split) <;> omega
  have hfa : (f * v).natAbs = v.natAbs := by rcases hf with rfl | rfl <;> omega
  have hsw := jsg_range (f * v)
  refine mj_Ok.of (M := mj_m188) rfl rfl rfl ?_
  iterate 3 refine mj_T.pl rfl rfl rfl rfl ?_
  refine mj_T.call (ins := .invokevirtual 68) rfl rfl (Nat.le_of_ble_eq_true rfl) (Nat.le_of_ble_eq_true rfl) (by simp [mj_recv, jX_a C]) rfl (jq_sign (D := D + 2) (jX_a C) C.2.1 (jX_b C) hb hv) (fun v' h' hq' => ?_) (fun i h' hq' => by cases hq')
  cases hq'
  refine mj_T.imul rfl ?_
  rw [hfv]
  iterate 3 refine mj_T.pl rfl rfl rfl rfl ?_
  refine mj_T.call (ins := .invokevirtual 68) rfl rfl (Nat.le_of_ble_eq_true rfl) (Nat.le_of_ble_eq_true rfl) (by simp [mj_recv, jX_a C]) rfl (jq_sign (D := D + 2) (jX_a C) C.2.1 (jX_b C) ha hu) (fun v' h' hq' => ?_) (fun i h' hq' => by cases hq')
  cases hq'
  iterate 2 refine mj_T.pl rfl rfl rfl rfl ?_
  generalize hw : f * v = w at *
  refine mj_T.if0 rfl ⟨by omega, by omega⟩ (fun hc => ?_) (fun hc => ?_)
  · simp only [jc, Bool.not_eq_true', decide_eq_false_iff_not] at hc
    have hw0 : w ≠ 0 := fun q => hc (by rw [q]; rfl)
    refine mj_T.pl rfl rfl rfl rfl ?_
    refine mj_T.if0 rfl ⟨by omega, by omega⟩ (fun hc2 => ?_) (fun hc2 => ?_)
    · simp only [jc, Bool.not_eq_true', decide_eq_false_iff_not] at hc2
      have hu0 : u ≠ 0 := fun q => hc2 (by rw [q]; rfl)
      iterate 2 refine mj_T.pl rfl rfl rfl rfl ?_
      refine mj_T.icmp rfl ⟨by omega, by omega⟩ ⟨by omega, by omega⟩ (fun hc3 => ?_) (fun hc3 => ?_)
      · simp only [jc, Bool.not_eq_true', decide_eq_false_iff_not] at hc3
        have hopp : (0 < u ∧ w < 0) ∨ (u < 0 ∧ 0 < w) := by
          rcases Int.lt_trichotomy u 0 with h1 | h1 | h1
          · rcases Int.lt_trichotomy w 0 with h2 | h2 | h2
            · exact absurd ((jsg_neg h1).trans (jsg_neg h2).symm) hc3
            · exact absurd h2 hw0
            · exact Or.inr ⟨h1, h2⟩
          · exact absurd h1 hu0
          · rcases Int.lt_trichotomy w 0 with h2 | h2 | h2
            · exact Or.inl ⟨h1, h2⟩
            · exact absurd h2 hw0
            · exact absurd ((jsg_pos h1).trans (jsg_pos h2).symm) hc3
        iterate 3 refine mj_T.pl rfl rfl rfl rfl ?_
        refine mj_T.call (ins := .invokevirtual 71) rfl rfl (Nat.le_of_ble_eq_true rfl) (Nat.le_of_ble_eq_true rfl) (by simp [mj_recv, jX_a C]) rfl (jq_cmp (D := D) C ha hb hu hv) (fun v' h' hq' => ?_) (fun i h' hq' => by cases hq')
        cases hq'
        have hcr := jcm_range u.natAbs v.natAbs
        refine mj_T.if0 rfl ⟨by omega, by omega⟩ (fun hc4 => ?_) (fun hc4 => ?_)
        · simp only [jc, decide_eq_true_eq] at hc4
          have hlt : u.natAbs < v.natAbs := Decidable.byContradiction fun q => by
            rcases Nat.lt_or_ge v.natAbs u.natAbs with q2 | q2
            · rw [jcm_gt q2] at hc4; omega
            · rw [jcm_eq (by omega)] at hc4; omega
          iterate 5 refine mj_T.pl rfl rfl rfl rfl ?_
          refine mj_T.call (ins := .invokevirtual 91) rfl rfl (Nat.le_of_ble_eq_true rfl) (Nat.le_of_ble_eq_true rfl) (by simp [mj_recv, jX_a C]) rfl (jq_takes (D := D + 1) C (sg := jsg w) hto hb ha hv hu (by omega)) (fun v' h' hq' => ?_) (fun i h' hq' => by obtain ⟨_, _, _, _, _, h⟩ := hq'; cases h)
          obtain ⟨bg', e1, e2, e3, e4, h⟩ := hq'
          cases h
          refine mj_T.ret rfl rfl rfl ⟨bg', jrs_of (by omega) e1 e2 e3 (fun h0 => ?_) (by rw [show v.natAbs - u.natAbs = (u + w).natAbs by omega]; omega), e4, rfl⟩
          rcases hopp with ⟨p1, p2⟩ | ⟨p1, p2⟩
          · rw [jsg_neg p2, jsg_neg (by omega)]
          · rw [jsg_pos p2, jsg_pos (by omega)]
        · simp only [jc, decide_eq_false_iff_not] at hc4
          have hge : v.natAbs ≤ u.natAbs := Decidable.byContradiction fun q => by
            rw [jcm_lt (show u.natAbs < v.natAbs by omega)] at hc4
            omega
          iterate 5 refine mj_T.pl rfl rfl rfl rfl ?_
          refine mj_T.call (ins := .invokevirtual 91) rfl rfl (Nat.le_of_ble_eq_true rfl) (Nat.le_of_ble_eq_true rfl) (by simp [mj_recv, jX_a C]) rfl (jq_takes (D := D + 1) C (sg := jsg u) hto ha hb hu hv hge) (fun v' h' hq' => ?_) (fun i h' hq' => by obtain ⟨_, _, _, _, _, h⟩ := hq'; cases h)
          obtain ⟨bg', e1, e2, e3, e4, h⟩ := hq'
          cases h
          refine mj_T.pl rfl rfl rfl rfl ?_
          refine mj_T.ret rfl rfl rfl ⟨bg', jrs_of (by omega) e1 e2 e3 (fun h0 => ?_) (by rw [show u.natAbs - v.natAbs = (u + w).natAbs by omega]; omega), e4, rfl⟩
          rcases hopp with ⟨p1, p2⟩ | ⟨p1, p2⟩
          · rw [jsg_pos p1, jsg_pos (by omega)]
          · rw [jsg_neg p1, jsg_neg (by omega)]
      · simp only [jc, Bool.not_eq_false', decide_eq_true_eq] at hc3
        have hsame : (0 < u ∧ 0 < w) ∨ (u < 0 ∧ w < 0) := by
          rcases Int.lt_trichotomy u 0 with h1 | h1 | h1
          · rcases Int.lt_trichotomy w 0 with h2 | h2 | h2
            · exact Or.inr ⟨h1, h2⟩
            · exact absurd h2 hw0
            · rw [jsg_neg h1, jsg_pos h2] at hc3; omega
          · exact absurd h1 hu0
          · rcases Int.lt_trichotomy w 0 with h2 | h2 | h2
            · rw [jsg_pos h1, jsg_neg h2] at hc3; omega
            · exact absurd h2 hw0
            · exact Or.inl ⟨h1, h2⟩
        have e : (u + w).natAbs = u.natAbs + v.natAbs := by omega
        rw [e] at hz
        have m1 : jnl u.natAbs ≤ 698 := Nat.le_trans (jnl_mono (Nat.le_add_right _ _)) hz
        have m2 : jnl v.natAbs ≤ 698 := Nat.le_trans (jnl_mono (Nat.le_add_left _ _)) hz
        iterate 5 refine mj_T.pl rfl rfl rfl rfl ?_
        refine mj_T.call (ins := .invokevirtual 87) rfl rfl (Nat.le_of_ble_eq_true rfl) (Nat.le_of_ble_eq_true rfl) (by simp [mj_recv, jX_a C]) rfl (jq_addsSizes (D := D + 1) C (sg := jsg u) hto ha hb hu hv m1 m2) (fun v' h' hq' => ?_) (fun i h' hq' => by obtain ⟨_, _, _, _, _, h⟩ := hq'; cases h)
        obtain ⟨bg', e1, e2, e3, e4, h⟩ := hq'
        cases h
        refine mj_T.pl rfl rfl rfl rfl ?_
        refine mj_T.ret rfl rfl rfl ⟨bg', jrs_of e e1 e2 e3 (fun h0 => ?_) (by omega), e4, rfl⟩
        rcases hsame with ⟨p1, p2⟩ | ⟨p1, p2⟩
        · rw [jsg_pos p1, jsg_pos (by omega)]
        · rw [jsg_neg p1, jsg_neg (by omega)]
    · simp only [jc, Bool.not_eq_false', decide_eq_true_eq] at hc2
      have hu0 : u = 0 := jsg_eq0 hc2
      subst hu0
      iterate 3 refine mj_T.pl rfl rfl rfl rfl ?_
      refine mj_T.call (ins := .invokevirtual 84) rfl rfl (Nat.le_of_ble_eq_true rfl) (Nat.le_of_ble_eq_true rfl) (by simp [mj_recv, jX_a C]) rfl (jq_copies (D := D + 1) C hto hb hv) (fun v' h' hq' => ?_) (fun i h' hq' => by obtain ⟨_, _, _, h⟩ := hq'; cases h)
      obtain ⟨bg1, e1, e2, h⟩ := hq'
      cases h
      iterate 4 (first | refine mj_T.gb C rfl ?_ | refine mj_T.pl rfl rfl rfl rfl ?_)
      refine mj_T.imul (b := 702) rfl ?_
      rw [show (to : Int) * 702 = ((to * 702 : Nat) : Int) by omega]
      refine mj_T.pl rfl rfl rfl rfl ?_
      refine mj_T.xst C rfl ⟨by omega, by omega⟩ ⟨by omega, by omega⟩ ?_
      refine mj_T.pl rfl rfl rfl rfl ?_
      rw [Int.zero_add]
      have e5 : w.natAbs = v.natAbs := hfa
      refine mj_T.ret rfl rfl rfl ⟨upd bg1 (to * 702) (jn (jsg w)), ⟨if_pos rfl, ?_, fun j hj => ?_, by rw [e5]; exact e1.2.2.2⟩, fun j hj => ?_, rfl⟩
      · rw [e5]
        exact (if_neg (by omega)).trans e1.2.1
      · rw [e5] at hj ⊢
        exact (if_neg (by omega)).trans (e1.2.2.1 j hj)
      · exact (if_neg (by omega)).trans (e2 j hj)
  · simp only [jc, Bool.not_eq_false', decide_eq_true_eq] at hc
    have hw0 : w = 0 := jsg_eq0 hc
    iterate 3 refine mj_T.pl rfl rfl rfl rfl ?_
    refine mj_T.call (ins := .invokevirtual 84) rfl rfl (Nat.le_of_ble_eq_true rfl) (Nat.le_of_ble_eq_true rfl) (by simp [mj_recv, jX_a C]) rfl (jq_copies (D := D + 1) C hto ha hu) (fun v' h' hq' => ?_) (fun i h' hq' => by obtain ⟨_, _, _, h⟩ := hq'; cases h)
    obtain ⟨bg1, e1, e2, h⟩ := hq'
    cases h
    refine mj_T.pl rfl rfl rfl rfl ?_
    refine mj_T.ret rfl rfl rfl ⟨bg1, ?_, e2, rfl⟩
    rw [hw0, Int.add_zero]
    exact e1
end JX4
/-! Of the reference and of numbers (as in p1, part 78q). -/
theorem jnl_mul_ge {x y : Nat} (hx : x ≠ 0) (hy : y ≠ 0) : jnl x + jnl y ≤ jnl (x * y) + 1 := by
  obtain ⟨p, hp⟩ : ∃ p, jnl x = p + 1 := ⟨jnl x - 1, by have := jnl_eq0 (x := x); omega⟩
  obtain ⟨q, hq⟩ : ∃ q, jnl y = q + 1 := ⟨jnl y - 1, by have := jnl_eq0 (x := y); omega⟩
  have h1 : jB ^ p ≤ x := Nat.le_of_not_lt fun h => by have := jnl_le_lt.mpr h; omega
  have h2 : jB ^ q ≤ y := Nat.le_of_not_lt fun h => by have := jnl_le_lt.mpr h; omega
  have h3 : jB ^ (p + q) ≤ x * y := by rw [Nat.pow_add]; exact Nat.mul_le_mul h1 h2
  have h4 : ¬ jnl (x * y) ≤ p + q := fun h => by have := jnl_le_lt.mp h; omega
  omega
theorem jnl_mul_up (x y : Nat) : jnl (x * y) ≤ jnl x + jnl y := by
  have h1 := jnl_le_lt.mp (Nat.le_refl (jnl x))
  have h2 := jnl_le_lt.mp (Nat.le_refl (jnl y))
  refine jnl_le_lt.mpr ?_
  rw [Nat.pow_add]
  exact Nat.mul_lt_mul'' h1 h2
/-- what is carried out of place i + k, what stands there so far -/
def jmc (A X y i k : Nat) : Nat := (A % jB ^ (i + k) + X * (y % jB ^ k) * jB ^ i) / jB ^ (i + k)
def jmp (A X y i k : Nat) : Nat := A + X * (y % jB ^ k) * jB ^ i
theorem jmc_zero (A X y i : Nat) : jmc A X y i 0 = 0 := by
  unfold jmc
  rw [Nat.pow_zero, Nat.mod_one, Nat.mul_zero, Nat.zero_mul, Nat.add_zero, Nat.add_zero]
  exact Nat.div_eq_of_lt (Nat.mod_lt _ (jB_pow i))
theorem jmc_le (A X y i k : Nat) : jmc A X y i k ≤ X := by
  unfold jmc
  have h := jB_pow (i + k)
  have h1 := Nat.mod_lt A h
  have h2 : y % jB ^ k + 1 ≤ jB ^ k := Nat.mod_lt y (jB_pow k)
  have h3 : X * (y % jB ^ k) * jB ^ i ≤ X * jB ^ (i + k) := by
    rw [Nat.pow_add, Nat.mul_comm (jB ^ i), ← Nat.mul_assoc]
    exact Nat.mul_le_mul_right _ (Nat.mul_le_mul_left _ (by omega))
  have h4 : A % jB ^ (i + k) + X * (y % jB ^ k) * jB ^ i < (X + 1) * jB ^ (i + k) := by
    rw [Nat.add_mul, Nat.one_mul]
    omega
  have h5 := (Nat.div_lt_iff_lt_mul h).mpr h4
  omega
theorem jmc_step (A X y i k : Nat) : (A % jB ^ (i + k + 1) + X * (y % jB ^ (k + 1)) * jB ^ i) / jB ^ (i + k) = jlb A (i + k) + X * jlb y k + jmc A X y i k := by
  unfold jmc
  rw [jmod A (i + k), jmod y k]
  have e : jlb A (i + k) * jB ^ (i + k) + A % jB ^ (i + k) + X * (jlb y k * jB ^ k + y % jB ^ k) * jB ^ i = A % jB ^ (i + k) + X * (y % jB ^ k) * jB ^ i + jB ^ (i + k) * (jlb A (i + k) + X * jlb y k) := by
    rw [Nat.pow_add]
    simp only [Nat.mul_add, Nat.add_mul]
    have e1 : X * (jlb y k * jB ^ k) * jB ^ i = jB ^ i * jB ^ k * (X * jlb y k) := by
      simp only [Nat.mul_comm, Nat.mul_left_comm, Nat.mul_assoc]
    have e2 : jlb A (i + k) * (jB ^ i * jB ^ k) = jB ^ i * jB ^ k * jlb A (i + k) := Nat.mul_comm _ _
    rw [e1, e2]
    omega
  rw [e, Nat.add_mul_div_left _ _ (jB_pow _), Nat.add_comm]
theorem jmc_succ (A X y i k : Nat) : jmc A X y i (k + 1) = (jlb A (i + k) + X * jlb y k + jmc A X y i k) / jB := by
  rw [← jmc_step, Nat.div_div_eq_div_mul, ← Nat.pow_succ]
  rfl
theorem jmp_limb (A X y i k : Nat) : jlb (jmp A X y i (k + 1)) (i + k) = (jlb A (i + k) + X * jlb y k + jmc A X y i k) % jB := by
  rw [← jmc_step]
  unfold jlb jmp
  have e : A = A % jB ^ (i + k + 1) + jB ^ (i + k) * (jB * (A / jB ^ (i + k + 1))) := by
    have := Nat.mod_add_div A (jB ^ (i + k + 1))
    rw [← Nat.mul_assoc, ← Nat.pow_succ]
    exact this.symm
  have e2 : A + X * (y % jB ^ (k + 1)) * jB ^ i = A % jB ^ (i + k + 1) + X * (y % jB ^ (k + 1)) * jB ^ i + jB ^ (i + k) * (jB * (A / jB ^ (i + k + 1))) := by
    conv => lhs; rw [e]
    omega
  rw [e2, Nat.add_mul_div_left _ _ (jB_pow _), Nat.add_mul_mod_self_left]
theorem jlb_add_high {x z n j : Nat} (hj : j < n) : jlb (x + z * jB ^ n) j = jlb x j := by
  rw [Nat.add_comm]
  exact jlb_low hj
theorem jmp_low {A X y i k j : Nat} (hj : j < i + k) : jlb (jmp A X y i (k + 1)) j = jlb (jmp A X y i k) j := by
  have e : jmp A X y i (k + 1) = jmp A X y i k + (X * jlb y k) * jB ^ (i + k) := by
    unfold jmp
    rw [jmod y k, Nat.pow_add]
    simp only [Nat.mul_add, Nat.add_mul]
    have e1 : X * (jlb y k * jB ^ k) * jB ^ i = X * jlb y k * (jB ^ i * jB ^ k) := by
      simp only [Nat.mul_comm, Nat.mul_left_comm, Nat.mul_assoc]
    rw [e1]
    omega
  rw [e]
  exact jlb_add_high hj
/-- the row 'over' beside -/
abbrev jY (hp : mj_H) (q1 q2 : Nat) (bg : Nat → Int32) (ov : Nat → Value) : mj_H := jX (hp.set q2 (.inl (0, 1404, ov))) q1 bg
abbrev jE (hp : mj_H) (q0 q1 q2 : Nat) (fs : List Value) : Prop := jC hp q0 q1 fs ∧ fs[5]? = some (.ref q2) ∧ q2 ≠ q0 ∧ q2 ≠ q1 ∧ q2 < hp.length
section JX6
variable {D pc : Nat} {M : mj_M} {loc : mj_L} {st : List Value} {hp : mj_H} {q0 q1 q2 : Nat} {fs : List Value} {bg : Nat → Int32} {ov : Nat → Value} {Q : mj_R → Prop} {n r1 r2 r3 r4 r5 : Nat}
theorem jE_c (E : jE hp q0 q1 q2 fs) (e : mj_E) : jC (hp.set q2 e) q0 q1 fs := by
  obtain ⟨⟨c1, c2, c3, c4⟩, -, h2, h3, -⟩ := E
  exact ⟨by rw [List.getElem?_set_ne h2]; exact c1, c2, c3, by rw [List.length_set]; exact c4⟩
theorem jY_o (E : jE hp q0 q1 q2 fs) : (jY hp q1 q2 bg ov)[q2]? = some (.inl (0, 1404, ov)) := by
  obtain ⟨-, -, h2, h3, h4⟩ := E
  rw [List.getElem?_set_ne (Ne.symm h3), List.getElem?_set_self h4]
theorem jY_set (E : jE hp q0 q1 q2 fs) {ov' : Nat → Value} : (jY hp q1 q2 bg ov).set q2 (.inl (0, 1404, ov')) = jY hp q1 q2 bg ov' := by
  obtain ⟨-, -, h2, h3, h4⟩ := E
  show (((hp.set q2 _).set q1 _).set q2 _) = (hp.set q2 _).set q1 _
  rw [List.set_comm _ _ (Ne.symm h3), List.set_set]
theorem mj_T.gov (E : jE hp q0 q1 q2 fs) (hc : M.2.2.2.2.1 pc = some (.getfield n, 10, 5, r3, r4, r5)) (k : mj_T D M (pc + 3) loc (.ref q2 :: st) (jY hp q1 q2 bg ov) Q) : mj_T D M pc loc (.ref q0 :: st) (jY hp q1 q2 bg ov) Q :=
  mj_T.step hc rfl (by simp only [mj_step, jX_a (jE_c E _), E.2.1, if_true]) k
theorem mj_T.old {i : Int} {v : Value} (E : jE hp q0 q1 q2 fs) (hc : M.2.2.2.2.1 pc = some (.iaload, r1, r2, r3, r4, r5)) (hi : jr i) (h0 : 0 ≤ i ∧ i < 1404) (hv : ov i.toNat = v) (k : mj_T D M (pc + 1) loc (v :: st) (jY hp q1 q2 bg ov) Q) : mj_T D M pc loc (.int (jn i) :: .ref q2 :: st) (jY hp q1 q2 bg ov) Q :=
  mj_T.step hc rfl (by
    have h1 : mj_in (jn i) 1404 = true := by rw [jn_in hi]; exact decide_eq_true h0
    simp only [mj_step, jY_o E, h1, jn_nat h0.1 hi, true_or, true_and, if_true, hv]) k
theorem mj_T.ost {i : Int} {x : Int32} (E : jE hp q0 q1 q2 fs) (hc : M.2.2.2.2.1 pc = some (.iastore, r1, r2, r3, r4, r5)) (hi : jr i) (h0 : 0 ≤ i ∧ i < 1404) (k : mj_T D M (pc + 1) loc st (jY hp q1 q2 bg (updV ov i.toNat (.int x))) Q) : mj_T D M pc loc (.int x :: .int (jn i) :: .ref q2 :: st) (jY hp q1 q2 bg ov) Q :=
  mj_T.step hc rfl (by
    have h1 : mj_in (jn i) 1404 = true := by rw [jn_in hi]; exact decide_eq_true h0
    simp only [mj_step, jY_o E, h1, jn_nat h0.1 hi, true_and, if_true, jY_set E]) k
end JX6
section JX7
variable {D : Nat} {hp : mj_H} {q0 q1 q2 : Nat} {fs : List Value} {bg : Nat → Int32}
theorem jq_mul_zero (E : jE hp q0 q1 q2 fs) {to a b la lb : Nat} (hl : la + lb ≤ 701) {Q : mj_R → Prop}
    (hend : ∀ ov : Nat → Value, (∀ j, j ≤ la + lb → ov j = .int (jn 0)) → mj_T D mj_m189 41 [some (.ref q0), some (.int (jn to)), some (.int (jn a)), some (.int (jn b)), some (.int (jn la)), some (.int (jn lb)), some (.int (jn (la + lb + 1 : Nat))), none, none, none, none, none, none, none] [] (jY hp q1 q2 bg ov) Q) :
    ∀ (d k : Nat) (ov : Nat → Value), k + d = la + lb + 1 → (∀ j, j < k → ov j = .int (jn 0)) →
      mj_T D mj_m189 17 [some (.ref q0), some (.int (jn to)), some (.int (jn a)), some (.int (jn b)), some (.int (jn la)), some (.int (jn lb)), some (.int (jn k)), none, none, none, none, none, none, none] [] (jY hp q1 q2 bg ov) Q := by
  intro d
  induction d with
  | zero =>
    intro k ov hk h1
    have ek : k = la + lb + 1 := by omega
    subst ek
    iterate 3 refine mj_T.pl rfl rfl rfl rfl ?_
    refine mj_T.iadd rfl ?_
    refine mj_T.icmp rfl ⟨by omega, by omega⟩ ⟨by omega, by omega⟩ (fun hc => ?_) (fun hc => ?_)
    · exact hend ov (fun j hj => h1 j (by omega))
    · simp only [jc, decide_eq_false_iff_not] at hc; omega
  | succ d ih =>
    intro k ov hk h1
    iterate 3 refine mj_T.pl rfl rfl rfl rfl ?_
    refine mj_T.iadd rfl ?_
    refine mj_T.icmp rfl ⟨by omega, by omega⟩ ⟨by omega, by omega⟩ (fun hc => ?_) (fun hc => ?_)
    · simp only [jc, decide_eq_true_eq] at hc; omega
    refine mj_T.pl rfl rfl rfl rfl ?_
    refine mj_T.gov E rfl ?_
    iterate 2 refine mj_T.pl rfl rfl rfl rfl ?_
    refine mj_T.ost E rfl ⟨by omega, by omega⟩ ⟨by omega, by omega⟩ ?_
    refine mj_T.iinc (a := k) rfl rfl ?_
    refine mj_T.pl rfl rfl rfl rfl ?_
    refine ih (k + 1) _ (by omega) (fun j hj => ?_)
    unfold updV
    by_cases h : j = k
    · subst h; exact if_pos rfl
    · rw [if_neg (by omega)]; exact h1 j (by omega)
theorem jq_mul_in (E : jE hp q0 q1 q2 fs) {to a b la lb i A X y : Nat} (hb : b < 665) (hla : la + lb ≤ 701) (hi : i < la) (hX : X < 1000000000) (hlb : lb = jnl y) (hy : ∀ j, j < jnl y → bg (b * 702 + 2 + j) = jn (jlb y j)) {Q : mj_R → Prop}
    (hend : ∀ (ov : Nat → Value) (l11 l12 : Option Value), (∀ j, j < i + lb → ov j = .int (jn (jlb (jmp A X y i lb) j : Nat))) → (∀ j, i + lb ≤ j → j ≤ la + lb → ov j = .int (jn (jlb A j : Nat))) → mj_T D mj_m189 149 [some (.ref q0), some (.int (jn to)), some (.int (jn a)), some (.int (jn b)), some (.int (jn la)), some (.int (jn lb)), some (.int (jn i)), some (.long (jl (jmc A X y i lb : Nat))), none, some (.long (jl X)), none, l11, l12, none] [] (jY hp q1 q2 bg ov) Q) :
    ∀ (d k : Nat) (ov : Nat → Value) (l12 : Option Value), k + d = lb → (∀ j, j < i + k → ov j = .int (jn (jlb (jmp A X y i k) j : Nat))) → (∀ j, i + k ≤ j → j ≤ la + lb → ov j = .int (jn (jlb A j : Nat))) →
      mj_T D mj_m189 75 [some (.ref q0), some (.int (jn to)), some (.int (jn a)), some (.int (jn b)), some (.int (jn la)), some (.int (jn lb)), some (.int (jn i)), some (.long (jl (jmc A X y i k : Nat))), none, some (.long (jl X)), none, some (.int (jn k)), l12, none] [] (jY hp q1 q2 bg ov) Q := by
  intro d
  induction d with
  | zero =>
    intro k ov l12 hk h1 h2
    have ek : k = lb := by omega
    subst ek
    iterate 2 refine mj_T.pl rfl rfl rfl rfl ?_
    refine mj_T.icmp rfl ⟨by omega, by omega⟩ ⟨by omega, by omega⟩ (fun hc => ?_) (fun hc => ?_)
    · exact hend ov _ l12 h1 h2
    · simp only [jc, decide_eq_false_iff_not] at hc; omega
  | succ d ih =>
    intro k ov l12 hk h1 h2
    have c1 := jmc_le A X y i k
    have a1 := jlb_lt A (i + k)
    have y1 := jlb_lt y k
    have hs := jmc_succ A X y i k
    have hp1 := jmp_limb A X y i k
    have hm : X * jlb y k ≤ 999999999 * 999999999 := Nat.mul_le_mul (by omega) (by omega)
    have hS : ((jlb A (i + k) : Nat) : Int) + (X : Int) * ((jlb y k : Nat) : Int) + ((jmc A X y i k : Nat) : Int) = ((jlb A (i + k) + X * jlb y k + jmc A X y i k : Nat) : Int) := by
      rw [Int.natCast_add, Int.natCast_add, Int.natCast_mul]
    have hSb : jlb A (i + k) + X * jlb y k + jmc A X y i k < 4000000000000000000 := by omega
    generalize hSS : jlb A (i + k) + X * jlb y k + jmc A X y i k = S at *
    iterate 2 refine mj_T.pl rfl rfl rfl rfl ?_
    refine mj_T.icmp rfl ⟨by omega, by omega⟩ ⟨by omega, by omega⟩ (fun hc => ?_) (fun hc => ?_)
    · simp only [jc, decide_eq_true_eq] at hc; omega
    clear hc
    refine mj_T.pl rfl rfl rfl rfl ?_
    refine mj_T.gov E rfl ?_
    iterate 2 refine mj_T.pl rfl rfl rfl rfl ?_
    refine mj_T.iadd rfl ?_
    rw [show (i : Int) + (k : Int) = ((i + k : Nat) : Int) by omega]
    refine mj_T.old E rfl ⟨by omega, by omega⟩ ⟨by omega, by omega⟩ (h2 (i + k) (by omega) (by omega)) ?_
    refine mj_T.i2l rfl ⟨by omega, by omega⟩ ?_
    iterate 2 refine mj_T.pl rfl rfl rfl rfl ?_
    refine mj_T.gb (jE_c E _) rfl ?_
    iterate 2 refine mj_T.pl rfl rfl rfl rfl ?_
    refine mj_T.imul (b := 702) rfl ?_
    refine mj_T.pl rfl rfl rfl rfl ?_
    refine mj_T.iadd (b := 2) rfl ?_
    refine mj_T.pl rfl rfl rfl rfl ?_
    refine mj_T.iadd rfl ?_
    rw [show (b : Int) * 702 + 2 + (k : Int) = ((b * 702 + 2 + k : Nat) : Int) by omega]
    refine mj_T.xld (jE_c E _) rfl ⟨by omega, by omega⟩ ⟨by omega, by omega⟩ (hy k (by omega)) ?_
    refine mj_T.i2l rfl ⟨by omega, by omega⟩ ?_
    refine mj_T.lmul rfl ?_
    refine mj_T.ladd rfl ?_
    refine mj_T.pl rfl rfl rfl rfl ?_
    refine mj_T.ladd rfl ?_
    rw [hS]
    iterate 2 refine mj_T.pl rfl rfl rfl rfl ?_
    refine mj_T.gov E rfl ?_
    iterate 2 refine mj_T.pl rfl rfl rfl rfl ?_
    refine mj_T.iadd rfl ?_
    rw [show (i : Int) + (k : Int) = ((i + k : Nat) : Int) by omega]
    iterate 2 refine mj_T.pl rfl rfl rfl rfl ?_
    refine mj_T.lrem (b := 1000000000) rfl ⟨by omega, by omega⟩ ⟨by omega, by omega⟩ (by omega) ?_
    refine mj_T.l2i rfl ?_
    rw [show ((S : Nat) : Int).tmod 1000000000 = ((jlb (jmp A X y i (k + 1)) (i + k) : Nat) : Int) by rw [hp1]; rfl]
    refine mj_T.ost E rfl ⟨by omega, by omega⟩ ⟨by omega, by omega⟩ ?_
    iterate 2 refine mj_T.pl rfl rfl rfl rfl ?_
    refine mj_T.ldiv (b := 1000000000) rfl ⟨by omega, by omega⟩ ⟨by omega, by omega⟩ (by omega) ?_
    rw [show ((S : Nat) : Int).tdiv 1000000000 = ((jmc A X y i (k + 1) : Nat) : Int) by rw [hs]; rfl]
    refine mj_T.pl rfl rfl rfl rfl ?_
    refine mj_T.iinc (a := k) rfl rfl ?_
    refine mj_T.pl rfl rfl rfl rfl ?_
    refine ih (k + 1) _ _ (by omega) (fun j hj => ?_) (fun j hj hj2 => ?_)
    · unfold updV
      by_cases h : j = i + k
      · subst h; exact if_pos rfl
      · rw [if_neg (by omega), jmp_low (by omega)]; exact h1 j (by omega)
    · unfold updV
      rw [if_neg (by omega)]
      exact h2 j (by omega) hj2
end JX7
/-! Of the reference and of numbers (as in p1, part 78r). -/
theorem jsg_mul2 (u v : Int) : jsg u * jsg v = jsg (u * v) := by
  rcases Int.lt_trichotomy u 0 with h1 | h1 | h1
  · rcases Int.lt_trichotomy v 0 with h2 | h2 | h2
    · rw [jsg_neg h1, jsg_neg h2, jsg_pos (Int.mul_pos_of_neg_of_neg h1 h2)]; rfl
    · rw [h2, Int.mul_zero, jsg_zero, Int.mul_zero]
    · rw [jsg_neg h1, jsg_pos h2, jsg_neg (Int.mul_neg_of_neg_of_pos h1 h2)]; rfl
  · rw [h1, Int.zero_mul, jsg_zero, Int.zero_mul]
  · rcases Int.lt_trichotomy v 0 with h2 | h2 | h2
    · rw [jsg_pos h1, jsg_neg h2, jsg_neg (Int.mul_neg_of_pos_of_neg h1 h2)]; rfl
    · rw [h2, Int.mul_zero, jsg_zero, Int.mul_zero]
    · rw [jsg_pos h1, jsg_pos h2, jsg_pos (Int.mul_pos h1 h2)]; rfl
theorem jmp_zero (A X y i : Nat) : jmp A X y i 0 = A := by
  unfold jmp
  rw [Nat.pow_zero, Nat.mod_one, Nat.mul_zero, Nat.zero_mul, Nat.add_zero]
theorem jmp_full {x y i lb : Nat} (h : jnl y ≤ lb) : jmp (x % jB ^ i * y) (jlb x i) y i lb = x % jB ^ (i + 1) * y := by
  unfold jmp
  rw [jmod_full h, jmod x i, Nat.add_mul]
  have e : jlb x i * y * jB ^ i = jlb x i * jB ^ i * y := by simp only [Nat.mul_comm, Nat.mul_left_comm, Nat.mul_assoc]
  rw [e, Nat.add_comm]
theorem jml_lt {x y i lb : Nat} (h : jnl y ≤ lb) : x % jB ^ i * y < jB ^ (i + lb) := by
  rw [Nat.pow_add]
  exact Nat.mul_lt_mul'' (Nat.mod_lt _ (jB_pow i)) (jnl_le_lt.mp h)
theorem jmc_full {x y i lb : Nat} (h : jnl y ≤ lb) : jmc (x % jB ^ i * y) (jlb x i) y i lb = jlb (x % jB ^ (i + 1) * y) (i + lb) := by
  have h1 : jmc (x % jB ^ i * y) (jlb x i) y i lb = x % jB ^ (i + 1) * y / jB ^ (i + lb) := by
    rw [← jmp_full (x := x) (i := i) h]
    unfold jmc jmp
    rw [Nat.mod_eq_of_lt (jml_lt (x := x) (i := i) h)]
  have h2 : x % jB ^ (i + 1) * y / jB ^ (i + lb) < jB := by
    rw [Nat.div_lt_iff_lt_mul (jB_pow _), Nat.mul_comm jB, ← Nat.pow_succ, show (i + lb).succ = i + 1 + lb by omega]
    exact jml_lt h
  unfold jlb
  rw [Nat.mod_eq_of_lt h2]
  exact h1
section JX8
variable {D : Nat} {hp : mj_H} {q0 q1 q2 : Nat} {fs : List Value} {bg : Nat → Int32}
theorem jq_mul_out (E : jE hp q0 q1 q2 fs) {to a b la lb x y : Nat} (ha : a < 665) (hb : b < 665) (hl : la + lb ≤ 700) (hla : la = jnl x) (hlb : lb = jnl y) (hx : ∀ j, j < jnl x → bg (a * 702 + 2 + j) = jn (jlb x j)) (hy : ∀ j, j < jnl y → bg (b * 702 + 2 + j) = jn (jlb y j)) {Q : mj_R → Prop}
    (hend : ∀ (ov : Nat → Value) (l7 l9 l11 l12 : Option Value), (∀ j, j ≤ la + lb → ov j = .int (jn (jlb (x * y) j : Nat))) → mj_T D mj_m189 168 [some (.ref q0), some (.int (jn to)), some (.int (jn a)), some (.int (jn b)), some (.int (jn la)), some (.int (jn lb)), some (.int (jn la)), l7, none, l9, none, l11, l12, none] [] (jY hp q1 q2 bg ov) Q) :
    ∀ (d i : Nat) (ov : Nat → Value) (l7 l9 l11 l12 : Option Value), i + d = la → (∀ j, j ≤ la + lb → ov j = .int (jn (jlb (x % jB ^ i * y) j : Nat))) →
      mj_T D mj_m189 44 [some (.ref q0), some (.int (jn to)), some (.int (jn a)), some (.int (jn b)), some (.int (jn la)), some (.int (jn lb)), some (.int (jn i)), l7, none, l9, none, l11, l12, none] [] (jY hp q1 q2 bg ov) Q := by
  intro d
  induction d with
  | zero =>
    intro i ov l7 l9 l11 l12 hi h1
    have ei : i = la := by omega
    subst ei
    iterate 2 refine mj_T.pl rfl rfl rfl rfl ?_
    refine mj_T.icmp rfl ⟨by omega, by omega⟩ ⟨by omega, by omega⟩ (fun hc => ?_) (fun hc => ?_)
    · refine hend ov l7 l9 l11 l12 (fun j hj => ?_)
      rw [h1 j hj, jmod_full (show jnl x ≤ i by omega)]
    · simp only [jc, decide_eq_false_iff_not] at hc; omega
  | succ d ih =>
    intro i ov l7 l9 l11 l12 hi h1
    have x1 := jlb_lt x i
    iterate 2 refine mj_T.pl rfl rfl rfl rfl ?_
    refine mj_T.icmp rfl ⟨by omega, by omega⟩ ⟨by omega, by omega⟩ (fun hc => ?_) (fun hc => ?_)
    · simp only [jc, decide_eq_true_eq] at hc; omega
    clear hc
    iterate 3 refine mj_T.pl rfl rfl rfl rfl ?_
    refine mj_T.gb (jE_c E _) rfl ?_
    iterate 2 refine mj_T.pl rfl rfl rfl rfl ?_
    refine mj_T.imul (b := 702) rfl ?_
    refine mj_T.pl rfl rfl rfl rfl ?_
    refine mj_T.iadd (b := 2) rfl ?_
    refine mj_T.pl rfl rfl rfl rfl ?_
    refine mj_T.iadd rfl ?_
    rw [show (a : Int) * 702 + 2 + (i : Int) = ((a * 702 + 2 + i : Nat) : Int) by omega]
    refine mj_T.xld (jE_c E _) rfl ⟨by omega, by omega⟩ ⟨by omega, by omega⟩ (hx i (by omega)) ?_
    refine mj_T.i2l rfl ⟨by omega, by omega⟩ ?_
    iterate 3 refine mj_T.pl rfl rfl rfl rfl ?_
    refine mj_T.eq (jq_mul_in E (A := x % jB ^ i * y) (X := jlb x i) (y := y) (la := la) (lb := lb) (i := i) (to := to) (a := a) hb (by omega) (by omega) x1 hlb hy (fun ov' m11 m12 k1 k2 => ?_) lb 0 ov l12 (by omega) (fun j hj => ?_) (fun j _ hj => h1 j hj)) rfl ?_ rfl rfl
    · refine mj_T.pl rfl rfl rfl rfl ?_
      refine mj_T.gov E rfl ?_
      iterate 2 refine mj_T.pl rfl rfl rfl rfl ?_
      refine mj_T.iadd rfl ?_
      rw [show (i : Int) + (lb : Int) = ((i + lb : Nat) : Int) by omega]
      refine mj_T.pl rfl rfl rfl rfl ?_
      refine mj_T.l2i rfl ?_
      refine mj_T.ost E rfl ⟨by omega, by omega⟩ ⟨by omega, by omega⟩ ?_
      refine mj_T.iinc (a := i) rfl rfl ?_
      refine mj_T.pl rfl rfl rfl rfl ?_
      refine ih (i + 1) _ _ _ _ _ (by omega) (fun j hj => ?_)
      have hy0 : jnl y ≤ lb := by omega
      unfold updV
      rcases Nat.lt_trichotomy j (i + lb) with c | c | c
      · rw [if_neg (by omega), k1 j c, jmp_full hy0]
      · rw [if_pos (by omega), jmc_full hy0, c]
      · rw [if_neg (by omega), k2 j (by omega) hj]
        have g1 : jnl (x % jB ^ i * y) ≤ j := Nat.le_trans (jnl_of (jml_lt hy0)) (by omega)
        have g2 : jnl (x % jB ^ (i + 1) * y) ≤ j := Nat.le_trans (jnl_of (jml_lt hy0)) (by omega)
        rw [jlb_high g1, jlb_high g2]
    · rw [jmp_zero]
      exact h1 j (by omega)
    · rw [jmc_zero]
      rfl
theorem jq_mul_cp (E : jE hp q0 q1 q2 fs) {to a b la lb z : Nat} {sg : Int} {bg0 : Nat → Int32} {ov : Nat → Value} {l9 l11 l12 : Option Value} (hto : to < 665) (hl : la + lb ≤ 700) (hov : ∀ j, j < la + lb → ov j = .int (jn (jlb z j : Nat))) {Q : mj_R → Prop}
    (hend : ∀ bg : Nat → Int32, (∀ j, j < la + lb → bg (to * 702 + 2 + j) = jn (jlb z j : Nat)) → jrf bg0 bg to → mj_T D mj_m189 222 [some (.ref q0), some (.int (jn to)), some (.int (jn a)), some (.int (jn b)), some (.int (jn la)), some (.int (jn lb)), some (.int (jn sg)), some (.int (jn (la + lb : Nat))), none, l9, none, l11, l12, none] [] (jY hp q1 q2 bg ov) Q) :
    ∀ (d k : Nat) (bg : Nat → Int32), k + d = la + lb → (∀ j, j < k → bg (to * 702 + 2 + j) = jn (jlb z j : Nat)) → jrf bg0 bg to →
      mj_T D mj_m189 184 [some (.ref q0), some (.int (jn to)), some (.int (jn a)), some (.int (jn b)), some (.int (jn la)), some (.int (jn lb)), some (.int (jn sg)), some (.int (jn k)), none, l9, none, l11, l12, none] [] (jY hp q1 q2 bg ov) Q := by
  intro d
  induction d with
  | zero =>
    intro k bg hk h1 h2
    have ek : k = la + lb := by omega
    subst ek
    iterate 3 refine mj_T.pl rfl rfl rfl rfl ?_
    refine mj_T.iadd rfl ?_
    refine mj_T.icmp rfl ⟨by omega, by omega⟩ ⟨by omega, by omega⟩ (fun hc => ?_) (fun hc => ?_)
    · exact hend bg h1 h2
    · simp only [jc, decide_eq_false_iff_not] at hc; omega
  | succ d ih =>
    intro k bg hk h1 h2
    have z1 := jlb_lt z k
    iterate 3 refine mj_T.pl rfl rfl rfl rfl ?_
    refine mj_T.iadd rfl ?_
    refine mj_T.icmp rfl ⟨by omega, by omega⟩ ⟨by omega, by omega⟩ (fun hc => ?_) (fun hc => ?_)
    · simp only [jc, decide_eq_true_eq] at hc; omega
    clear hc
    refine mj_T.pl rfl rfl rfl rfl ?_
    refine mj_T.gb (jE_c E _) rfl ?_
    iterate 2 refine mj_T.pl rfl rfl rfl rfl ?_
    refine mj_T.imul (b := 702) rfl ?_
    refine mj_T.pl rfl rfl rfl rfl ?_
    refine mj_T.iadd (b := 2) rfl ?_
    refine mj_T.pl rfl rfl rfl rfl ?_
    refine mj_T.iadd rfl ?_
    rw [show (to : Int) * 702 + 2 + (k : Int) = ((to * 702 + 2 + k : Nat) : Int) by omega]
    refine mj_T.pl rfl rfl rfl rfl ?_
    refine mj_T.gov E rfl ?_
    refine mj_T.pl rfl rfl rfl rfl ?_
    refine mj_T.old E rfl ⟨by omega, by omega⟩ ⟨by omega, by omega⟩ (hov k (by omega)) ?_
    refine mj_T.xst (jE_c E _) rfl ⟨by omega, by omega⟩ ⟨by omega, by omega⟩ ?_
    refine mj_T.iinc (a := k) rfl rfl ?_
    refine mj_T.pl rfl rfl rfl rfl ?_
    refine ih (k + 1) _ (by omega) (fun j hj => ?_) (fun j hj => ?_)
    · unfold upd
      by_cases h : j = k
      · subst h; exact if_pos rfl
      · rw [if_neg (by omega)]; exact h1 j (by omega)
    · unfold upd
      rw [if_neg (by omega)]
      exact h2 j hj
theorem jq_mul (E : jE hp q0 q1 q2 fs) {to a b : Nat} {u v : Int} {ov : Nat → Value} (hto : to < 665) (ha : a < 665) (hb : b < 665) (hu : jrs bg a u) (hv : jrs bg b v) (hz : jnl (u * v).natAbs ≤ 698) :
    mj_Ok (D + 2) 189 [.ref q0, .int (jn to), .int (jn a), .int (jn b)] (jY hp q1 q2 bg ov) (fun r => ∃ (bg' : Nat → Int32) (ov' : Nat → Value), jrs bg' to (u * v) ∧ jrf bg bg' to ∧ r = (.inl none, jY hp q1 q2 bg' ov')) := by
  have ku := hu.2.2.2
  have kv := hv.2.2.2
  have hab : (u * v).natAbs = u.natAbs * v.natAbs := Int.natAbs_mul u v
  rw [hab] at hz
  have hl : jnl u.natAbs + jnl v.natAbs ≤ 700 := by
    by_cases h1 : u.natAbs = 0
    · rw [h1, jnl_zero]; omega
    · by_cases h2 : v.natAbs = 0
      · rw [h2, jnl_zero]; omega
      · have := jnl_mul_ge h1 h2
        omega
  have hnz := jnl_mul_up u.natAbs v.natAbs
  have hsu := jsg_range u
  have hsv := jsg_range v
  refine mj_Ok.of (M := mj_m189) rfl rfl rfl ?_
  iterate 2 refine mj_T.pl rfl rfl rfl rfl ?_
  refine mj_T.call (ins := .invokevirtual 52) rfl rfl (Nat.le_of_ble_eq_true rfl) (Nat.le_of_ble_eq_true rfl) (by simp [mj_recv, jX_a (jE_c E _)]) rfl (jq_length (D := D) (jX_a (jE_c E _)) E.1.2.1 (jX_b (jE_c E _)) ha hu) (fun v' h' hq' => ?_) (fun i h' hq' => by cases hq')
  cases hq'
  iterate 3 refine mj_T.pl rfl rfl rfl rfl ?_
  refine mj_T.call (ins := .invokevirtual 52) rfl rfl (Nat.le_of_ble_eq_true rfl) (Nat.le_of_ble_eq_true rfl) (by simp [mj_recv, jX_a (jE_c E _)]) rfl (jq_length (D := D) (jX_a (jE_c E _)) E.1.2.1 (jX_b (jE_c E _)) hb hv) (fun v' h' hq' => ?_) (fun i h' hq' => by cases hq')
  cases hq'
  iterate 3 refine mj_T.pl rfl rfl rfl rfl ?_
  refine jq_mul_zero E (to := to) (a := a) (b := b) (la := jnl u.natAbs) (lb := jnl v.natAbs) (by omega) (fun ov1 k1 => ?_) (jnl u.natAbs + jnl v.natAbs + 1) 0 ov (by omega) (fun j hj => by omega)
  iterate 2 refine mj_T.pl rfl rfl rfl rfl ?_
  refine jq_mul_out E (to := to) (a := a) (b := b) (la := jnl u.natAbs) (lb := jnl v.natAbs) (x := u.natAbs) (y := v.natAbs) ha hb (by omega) rfl rfl hu.2.2.1 hv.2.2.1 (fun ov2 l7 l9 l11 l12 k2 => ?_) (jnl u.natAbs) 0 ov1 none none none none (by omega) (fun j hj => ?_)
  · iterate 2 refine mj_T.pl rfl rfl rfl rfl ?_
    refine mj_T.call (ins := .invokevirtual 68) rfl rfl (Nat.le_of_ble_eq_true rfl) (Nat.le_of_ble_eq_true rfl) (by simp [mj_recv, jX_a (jE_c E _)]) rfl (jq_sign (D := D) (jX_a (jE_c E _)) E.1.2.1 (jX_b (jE_c E _)) ha hu) (fun v' h' hq' => ?_) (fun i h' hq' => by cases hq')
    cases hq'
    iterate 2 refine mj_T.pl rfl rfl rfl rfl ?_
    refine mj_T.call (ins := .invokevirtual 68) rfl rfl (Nat.le_of_ble_eq_true rfl) (Nat.le_of_ble_eq_true rfl) (by simp [mj_recv, jX_a (jE_c E _)]) rfl (jq_sign (D := D) (jX_a (jE_c E _)) E.1.2.1 (jX_b (jE_c E _)) hb hv) (fun v' h' hq' => ?_) (fun i h' hq' => by cases hq')
    cases hq'
    refine mj_T.imul rfl ?_
    rw [jsg_mul2]
    iterate 3 refine mj_T.pl rfl rfl rfl rfl ?_
    refine jq_mul_cp E (to := to) (a := a) (b := b) (la := jnl u.natAbs) (lb := jnl v.natAbs) (z := u.natAbs * v.natAbs) (sg := jsg (u * v)) (bg0 := bg) hto hl (fun j hj => k2 j (by omega)) (fun bg1 k3 k4 => ?_) (jnl u.natAbs + jnl v.natAbs) 0 bg (by omega) (fun j hj => by omega) (fun j _ => rfl)
    refine mj_T.pl rfl rfl rfl rfl ?_
    refine mj_T.gb (jE_c E _) rfl ?_
    iterate 2 refine mj_T.pl rfl rfl rfl rfl ?_
    refine mj_T.imul (b := 702) rfl ?_
    rw [show (to : Int) * 702 = ((to * 702 : Nat) : Int) by omega]
    refine mj_T.pl rfl rfl rfl rfl ?_
    refine mj_T.xst (jE_c E _) rfl ⟨by omega, by omega⟩ ⟨by omega, by omega⟩ ?_
    iterate 4 refine mj_T.pl rfl rfl rfl rfl ?_
    refine mj_T.iadd rfl ?_
    rw [show ((jnl u.natAbs : Nat) : Int) + ((jnl v.natAbs : Nat) : Int) = ((jnl u.natAbs + jnl v.natAbs : Nat) : Int) by omega]
    refine mj_T.call (ins := .invokevirtual 80) rfl rfl (Nat.le_of_ble_eq_true rfl) (Nat.le_of_ble_eq_true rfl) (by simp [mj_recv, jX_a (jE_c E _)]) rfl (jq_trims (D := D) (jE_c E _) (bg := upd bg1 (to * 702) (jn (jsg (u * v)))) (x := u.natAbs * v.natAbs) (g0 := jsg (u * v)) (n := jnl u.natAbs + jnl v.natAbs) hto hl hnz (if_pos rfl) (fun j hj => ?_)) (fun v' h' hq' => ?_) (fun i h' hq' => by obtain ⟨_, _, _, _, _, h⟩ := hq'; cases h)
    · unfold upd
      rw [if_neg (by omega)]
      exact k3 j hj
    · obtain ⟨bg', e1, e2, e3, e4, h⟩ := hq'
      cases h
      refine mj_T.ret rfl rfl rfl ⟨bg', ov2, jrs_of hab e1 e2 (fun j hj => e3 j (Nat.lt_of_lt_of_le hj hnz)) (fun _ => rfl) (by omega), fun q hq => ?_, rfl⟩
      rw [e4 q hq]
      unfold upd
      rw [if_neg (by omega)]
      exact k4 q hq
  · rw [Nat.pow_zero, Nat.mod_one, Nat.zero_mul, k1 j hj]
    unfold jlb
    rw [Nat.zero_div, Nat.zero_mod]
    rfl
end JX8
/-! Of the reference and of numbers (as in p1, part 78s). -/
section JXS
variable {D pc : Nat} {M : mj_M} {loc : mj_L} {st : List Value} {h : mj_H} {p N : Nat} {f : Nat → Value} {Q : mj_R → Prop} {r1 r2 r3 r4 r5 : Nat}
theorem mj_T.vld {i : Int} {v : Value} (hp : p < h.length) (hc : M.2.2.2.2.1 pc = some (.iaload, r1, r2, r3, r4, r5)) (hi : jr i) (h0 : 0 ≤ i ∧ i < N) (hv : f i.toNat = v) (k : mj_T D M (pc + 1) loc (v :: st) (h.set p (.inl (0, N, f))) Q) : mj_T D M pc loc (.int (jn i) :: .ref p :: st) (h.set p (.inl (0, N, f))) Q :=
  mj_T.step hc rfl (by
    have h1 : mj_in (jn i) N = true := by rw [jn_in hi]; exact decide_eq_true h0
    simp only [mj_step, List.getElem?_set_self hp, h1, jn_nat h0.1 hi, true_or, true_and, if_true, hv]) k
theorem mj_T.vst {i : Int} {x : Int32} (hp : p < h.length) (hc : M.2.2.2.2.1 pc = some (.iastore, r1, r2, r3, r4, r5)) (hi : jr i) (h0 : 0 ≤ i ∧ i < N) (k : mj_T D M (pc + 1) loc st (h.set p (.inl (0, N, updV f i.toNat (.int x)))) Q) : mj_T D M pc loc (.int x :: .int (jn i) :: .ref p :: st) (h.set p (.inl (0, N, f))) Q :=
  mj_T.step hc rfl (by
    have h1 : mj_in (jn i) N = true := by rw [jn_in hi]; exact decide_eq_true h0
    simp only [mj_step, List.getElem?_set_self hp, h1, jn_nat h0.1 hi, true_and, if_true, List.set_set]) k
end JXS
theorem jq_scales_loop {D p N n x fa : Nat} {h : mj_H} {f0 : Nat → Value} (hp : p < h.length) (hN : N ≤ 2000) (hn : n < N) (hx : jnl x ≤ n) (hfa : 0 < fa) (hfa2 : fa ≤ 1000000000) (hf : ∀ j, j < n → f0 j = .int (jn (jlb x j : Nat))) {Q : mj_R → Prop}
    (hend : ∀ f : Nat → Value, (∀ j, j ≤ n → f j = .int (jn (jlb (x * fa) j : Nat))) → Q (.inl none, h.set p (.inl (0, N, f)))) :
    ∀ (d k : Nat) (f : Nat → Value) (l6 : Option Value), k + d = n + 1 → (∀ j, j < k → f j = .int (jn (jlb (x * fa) j : Nat))) → (∀ j, k ≤ j → f j = f0 j) →
      mj_T D mj_m190 5 [some (.ref p), some (.int (jn n)), some (.int (jn fa)), some (.long (jl (jsc x fa k : Nat))), none, some (.int (jn k)), l6, none] [] (h.set p (.inl (0, N, f))) Q := by
  intro d
  induction d with
  | zero =>
    intro k f l6 hk h1 h2
    have ek : k = n + 1 := by omega
    subst ek
    iterate 2 refine mj_T.pl rfl rfl rfl rfl ?_
    refine mj_T.icmp rfl ⟨by omega, by omega⟩ ⟨by omega, by omega⟩ (fun hc => ?_) (fun hc => ?_)
    · exact mj_T.ret rfl rfl rfl (hend f (fun j hj => h1 j (by omega)))
    · simp only [jc, decide_eq_false_iff_not] at hc; omega
  | succ d ih =>
    intro k f l6 hk h1 h2
    have c1 := jsc_lt (x := x) (i := k) hfa
    have x1 := jlb_lt x k
    have hl := jsc_limb x fa k
    have hnx := jsc_next x fa k
    have hm : jlb x k * fa ≤ 999999999 * 1000000000 := Nat.mul_le_mul (by omega) hfa2
    iterate 2 refine mj_T.pl rfl rfl rfl rfl ?_
    refine mj_T.icmp rfl ⟨by omega, by omega⟩ ⟨by omega, by omega⟩ (fun hc => ?_) (fun hc => ?_)
    · simp only [jc, decide_eq_true_eq] at hc; omega
    clear hc
    have key : ∀ z : Int, z = (jlb x k * fa : Nat) → mj_T D mj_m190 29 [some (.ref p), some (.int (jn n)), some (.int (jn fa)), some (.long (jl (jsc x fa k : Nat))), none, some (.int (jn k)), l6, none] [.long (jl z)] (h.set p (.inl (0, N, f))) Q := by
      intro z hz
      subst hz
      refine mj_T.pl rfl rfl rfl rfl ?_
      refine mj_T.ladd rfl ?_
      rw [show ((jlb x k * fa : Nat) : Int) + ((jsc x fa k : Nat) : Int) = ((jlb x k * fa + jsc x fa k : Nat) : Int) by omega]
      generalize hS : jlb x k * fa + jsc x fa k = S at *
      iterate 5 refine mj_T.pl rfl rfl rfl rfl ?_
      refine mj_T.lrem (b := 1000000000) rfl ⟨by omega, by omega⟩ ⟨by omega, by omega⟩ (by omega) ?_
      refine mj_T.l2i rfl ?_
      rw [show ((S : Nat) : Int).tmod 1000000000 = ((jlb (x * fa) k : Nat) : Int) by rw [hl]; rfl]
      refine mj_T.vst hp rfl ⟨by omega, by omega⟩ ⟨by omega, by omega⟩ ?_
      iterate 2 refine mj_T.pl rfl rfl rfl rfl ?_
      refine mj_T.ldiv (b := 1000000000) rfl ⟨by omega, by omega⟩ ⟨by omega, by omega⟩ (by omega) ?_
      rw [show ((S : Nat) : Int).tdiv 1000000000 = ((jsc x fa (k + 1) : Nat) : Int) by rw [hnx]; rfl]
      refine mj_T.pl rfl rfl rfl rfl ?_
      refine mj_T.iinc (a := k) rfl rfl ?_
      refine mj_T.pl rfl rfl rfl rfl ?_
      refine ih (k + 1) _ _ (by omega) (fun j hj => ?_) (fun j hj => ?_)
      · unfold updV
        by_cases e : j = k
        · subst e; exact if_pos rfl
        · rw [if_neg (by omega)]; exact h1 j (by omega)
      · unfold updV
        rw [if_neg (by omega)]
        exact h2 j (by omega)
    iterate 2 refine mj_T.pl rfl rfl rfl rfl ?_
    refine mj_T.icmp rfl ⟨by omega, by omega⟩ ⟨by omega, by omega⟩ (fun hc => ?_) (fun hc => ?_)
    · simp only [jc, decide_eq_true_eq] at hc
      refine mj_T.pl rfl rfl rfl rfl ?_
      refine key 0 ?_
      rw [jlb_high (show jnl x ≤ k by omega), Nat.zero_mul]
      rfl
    · simp only [jc, decide_eq_false_iff_not] at hc
      iterate 2 refine mj_T.pl rfl rfl rfl rfl ?_
      refine mj_T.vld hp rfl ⟨by omega, by omega⟩ ⟨by omega, by omega⟩ ((h2 k (Nat.le_refl _)).trans (hf k (by omega))) ?_
      refine mj_T.i2l rfl ⟨by omega, by omega⟩ ?_
      refine mj_T.pl rfl rfl rfl rfl ?_
      refine mj_T.i2l rfl ⟨by omega, by omega⟩ ?_
      refine mj_T.lmul rfl ?_
      refine mj_T.pl rfl rfl rfl rfl ?_
      exact key _ (by rw [Int.natCast_mul])
theorem jq_scales {D p N n x fa : Nat} {h : mj_H} {f : Nat → Value} (hp : p < h.length) (hN : N ≤ 2000) (hn : n < N) (hx : jnl x ≤ n) (hfa : 0 < fa) (hfa2 : fa ≤ 1000000000) (hf : ∀ j, j < n → f j = .int (jn (jlb x j : Nat))) :
    mj_Ok (D + 1) 190 [.ref p, .int (jn n), .int (jn fa)] (h.set p (.inl (0, N, f))) (fun r => ∃ f' : Nat → Value, (∀ j, j ≤ n → f' j = .int (jn (jlb (x * fa) j : Nat))) ∧ r = (.inl none, h.set p (.inl (0, N, f')))) := by
  refine mj_Ok.of (M := mj_m190) rfl rfl rfl ?_
  iterate 4 refine mj_T.pl rfl rfl rfl rfl ?_
  refine mj_T.eq (jq_scales_loop (D := D) (h := h) (x := x) (f0 := f) hp hN hn hx hfa hfa2 hf (fun f' h1 => ⟨f', h1, rfl⟩) (n + 1) 0 f none (by omega) (fun j hj => by omega) (fun j _ => rfl)) rfl ?_ rfl rfl
  rw [jsc_zero]
  rfl
/-- 'by' beside too -/
abbrev jZ (hp : mj_H) (q1 q2 q3 : Nat) (bg : Nat → Int32) (ov db : Nat → Value) : mj_H := jY (hp.set q3 (.inl (0, 702, db))) q1 q2 bg ov
abbrev jG (hp : mj_H) (q0 q1 q2 q3 : Nat) (fs : List Value) : Prop := jE hp q0 q1 q2 fs ∧ fs[6]? = some (.ref q3) ∧ q3 ≠ q0 ∧ q3 ≠ q1 ∧ q3 ≠ q2 ∧ q3 < hp.length
section JXZ
variable {D pc : Nat} {M : mj_M} {loc : mj_L} {st : List Value} {hp : mj_H} {q0 q1 q2 q3 : Nat} {fs : List Value} {bg : Nat → Int32} {ov db : Nat → Value} {Q : mj_R → Prop} {n r1 r2 r3 r4 r5 : Nat}
theorem jG_e (G : jG hp q0 q1 q2 q3 fs) (e : mj_E) : jE (hp.set q3 e) q0 q1 q2 fs := by
  obtain ⟨⟨⟨c1, c2, c3, c4⟩, e1, e2, e3, e4⟩, -, h2, h3, h4, h5⟩ := G
  exact ⟨⟨by rw [List.getElem?_set_ne h2]; exact c1, c2, c3, by rw [List.length_set]; exact c4⟩, e1, e2, e3, by rw [List.length_set]; exact e4⟩
theorem jZ_y (G : jG hp q0 q1 q2 q3 fs) : (jZ hp q1 q2 q3 bg ov db)[q3]? = some (.inl (0, 702, db)) := by
  obtain ⟨-, -, h2, h3, h4, h5⟩ := G
  rw [List.getElem?_set_ne (Ne.symm h3), List.getElem?_set_ne (Ne.symm h4), List.getElem?_set_self h5]
theorem jZ_set (G : jG hp q0 q1 q2 q3 fs) {db' : Nat → Value} : (jZ hp q1 q2 q3 bg ov db).set q3 (.inl (0, 702, db')) = jZ hp q1 q2 q3 bg ov db' := by
  obtain ⟨-, -, h2, h3, h4, h5⟩ := G
  show ((((hp.set q3 _).set q2 _).set q1 _).set q3 _) = ((hp.set q3 _).set q2 _).set q1 _
  rw [List.set_comm _ _ (Ne.symm h3), List.set_comm _ _ (Ne.symm h4), List.set_set]
theorem mj_T.gby (G : jG hp q0 q1 q2 q3 fs) (hc : M.2.2.2.2.1 pc = some (.getfield n, 10, 6, r3, r4, r5)) (k : mj_T D M (pc + 3) loc (.ref q3 :: st) (jZ hp q1 q2 q3 bg ov db) Q) : mj_T D M pc loc (.ref q0 :: st) (jZ hp q1 q2 q3 bg ov db) Q :=
  mj_T.step hc rfl (by simp only [mj_step, jX_a (jE_c (jG_e G _) _), G.2.1, if_true]) k
theorem mj_T.yld {i : Int} {v : Value} (G : jG hp q0 q1 q2 q3 fs) (hc : M.2.2.2.2.1 pc = some (.iaload, r1, r2, r3, r4, r5)) (hi : jr i) (h0 : 0 ≤ i ∧ i < 702) (hv : db i.toNat = v) (k : mj_T D M (pc + 1) loc (v :: st) (jZ hp q1 q2 q3 bg ov db) Q) : mj_T D M pc loc (.int (jn i) :: .ref q3 :: st) (jZ hp q1 q2 q3 bg ov db) Q :=
  mj_T.step hc rfl (by
    have h1 : mj_in (jn i) 702 = true := by rw [jn_in hi]; exact decide_eq_true h0
    simp only [mj_step, jZ_y G, h1, jn_nat h0.1 hi, true_or, true_and, if_true, hv]) k
end JXZ
/-! Of the reference and of numbers (as in p1, part 78t). -/
abbrev jLd (q0 k n : Nat) (t g r v w : Int) (l13 l15 l16 l17 l18 l19 : Option Value) : mj_L := [some (.ref q0), some (.int (jn k)), some (.int (jn n)), some (.long (jl t)), none, some (.long (jl g)), none, some (.long (jl r)), none, some (.long (jl v)), none, some (.long (jl w)), none, l13, none, l15, l16, l17, l18, l19, none]
section JXD
variable {D : Nat} {hp : mj_H} {q0 q1 q2 q3 : Nat} {fs : List Value} {bg : Nat → Int32} {ov db : Nat → Value} {Q : mj_R → Prop}
/-- one look at the guess -/
theorem jq_dl_guess (G : jG hp q0 q1 q2 q3 fs) {k n p1 p2 l v2 u2 : Nat} {t : Int} (hn : 1 ≤ n) (hn2 : n ≤ 701) (hl : l < 1000000000) (hv : v2 < 1000000000) (hu : u2 < 1000000000) (hp1 : p1 ≤ 2000000000) (hp2 : p2 < 1000000000) (h0 : jB ≤ p1 ∨ p2 * jB + u2 < p1 * v2 → 1 ≤ p1) (hdb : db (n - 1) = .int (jn (l : Nat)))
    (K1 : ¬ (jB ≤ p1 ∨ p2 * jB + u2 < p1 * v2) → mj_T D mj_m192 153 (jLd q0 k n t p1 p2 v2 u2 none none none none none none) [] (jZ hp q1 q2 q3 bg ov db) Q)
    (K2 : (jB ≤ p1 ∨ p2 * jB + u2 < p1 * v2) → p2 + l < 1000000000 → mj_T D mj_m192 94 (jLd q0 k n t (p1 - 1 : Nat) (p2 + l : Nat) v2 u2 none none none none none none) [] (jZ hp q1 q2 q3 bg ov db) Q)
    (K3 : (jB ≤ p1 ∨ p2 * jB + u2 < p1 * v2) → ¬ p2 + l < 1000000000 → mj_T D mj_m192 153 (jLd q0 k n t (p1 - 1 : Nat) (p2 + l : Nat) v2 u2 none none none none none none) [] (jZ hp q1 q2 q3 bg ov db) Q) :
    mj_T D mj_m192 94 (jLd q0 k n t p1 p2 v2 u2 none none none none none none) [] (jZ hp q1 q2 q3 bg ov db) Q := by
  have hm1 : p1 * v2 ≤ 2000000000 * 999999999 := Nat.mul_le_mul hp1 (by omega)
  have eB : jB = 1000000000 := rfl
  rw [eB] at h0 K1 K2 K3
  have go : (1000000000 ≤ p1 ∨ p2 * 1000000000 + u2 < p1 * v2) → mj_T D mj_m192 121 (jLd q0 k n t p1 p2 v2 u2 none none none none none none) [] (jZ hp q1 q2 q3 bg ov db) Q := by
    intro hc
    have h1 := h0 hc
    iterate 2 refine mj_T.pl rfl rfl rfl rfl ?_
    refine mj_T.lsub (b := 1) rfl ?_
    rw [show (p1 : Int) - 1 = ((p1 - 1 : Nat) : Int) by omega]
    iterate 3 refine mj_T.pl rfl rfl rfl rfl ?_
    refine mj_T.gby G rfl ?_
    iterate 2 refine mj_T.pl rfl rfl rfl rfl ?_
    refine mj_T.isub (b := 1) rfl ?_
    rw [show (n : Int) - 1 = ((n - 1 : Nat) : Int) by omega]
    refine mj_T.yld G rfl ⟨by omega, by omega⟩ ⟨by omega, by omega⟩ hdb ?_
    refine mj_T.i2l rfl ⟨by omega, by omega⟩ ?_
    refine mj_T.ladd rfl ?_
    rw [show (p2 : Int) + (l : Int) = ((p2 + l : Nat) : Int) by omega]
    iterate 3 refine mj_T.pl rfl rfl rfl rfl ?_
    refine mj_T.lif (b := 1000000000) rfl rfl ⟨by omega, by omega⟩ ⟨by omega, by omega⟩ (fun hc2 => ?_) (fun hc2 => ?_)
    · simp only [jc, decide_eq_true_eq] at hc2
      exact K2 hc (by omega)
    · simp only [jc, decide_eq_false_iff_not] at hc2
      refine mj_T.pl rfl rfl rfl rfl ?_
      exact K3 hc (by omega)
  iterate 2 refine mj_T.pl rfl rfl rfl rfl ?_
  refine mj_T.lif (b := 1000000000) rfl rfl ⟨by omega, by omega⟩ ⟨by omega, by omega⟩ (fun hc => ?_) (fun hc => ?_)
  · simp only [jc, decide_eq_true_eq] at hc
    exact go (Or.inl (by omega))
  · simp only [jc, decide_eq_false_iff_not] at hc
    iterate 2 refine mj_T.pl rfl rfl rfl rfl ?_
    refine mj_T.lmul rfl ?_
    iterate 2 refine mj_T.pl rfl rfl rfl rfl ?_
    refine mj_T.lmul (b := 1000000000) rfl ?_
    refine mj_T.pl rfl rfl rfl rfl ?_
    refine mj_T.ladd rfl ?_
    rw [show (p1 : Int) * (v2 : Int) = ((p1 * v2 : Nat) : Int) by rw [Int.natCast_mul], show (p2 : Int) * 1000000000 + (u2 : Int) = ((p2 * 1000000000 + u2 : Nat) : Int) by omega]
    refine mj_T.lif rfl rfl ⟨by omega, by omega⟩ ⟨by omega, by omega⟩ (fun hc2 => ?_) (fun hc2 => ?_)
    · simp only [jc, decide_eq_true_eq] at hc2
      exact K1 (by omega)
    · simp only [jc, decide_eq_false_iff_not] at hc2
      exact go (Or.inr (by omega))
theorem jq_dl_sub (G : jG hp q0 q1 q2 q3 fs) {k n U V x : Nat} {t r v w : Int} {ov0 : Nat → Value} (hk : k + n ≤ 1402) (hn2 : n ≤ 701) (hV : jnl V = n) (hx : x ≤ 1000000000) (hov : ∀ j, j ≤ n → ov0 (k + j) = .int (jn (jlb U j : Nat))) (hdb : ∀ j, j < n → db j = .int (jn (jlb V j : Nat)))
    (hend : ∀ (ov : Nat → Value) (b R : Nat) (l17 l19 : Option Value), b ≤ 1 → jta U V x (n + 1) (jsc V x (n + 1) + b) R → (∀ j, j ≤ n → ov (k + j) = .int (jn (jlb R j : Nat))) → (∀ j, j < k ∨ k + n < j → ov j = ov0 j) → mj_T D mj_m192 265 (jLd q0 k n t x r v w (some (.long (jl (jsc V x (n + 1) : Nat)))) (some (.int (jn b))) (some (.int (jn (n + 1 : Nat)))) l17 none l19) [] (jZ hp q1 q2 q3 bg ov db) Q) :
    ∀ (d i b R : Nat) (ov : Nat → Value) (l17 l19 : Option Value), i + d = n + 1 → b ≤ 1 → jta U V x i (jsc V x i + b) R → (∀ j, j < i → ov (k + j) = .int (jn (jlb R j : Nat))) → (∀ j, j < k ∨ k + i ≤ j → ov j = ov0 j) →
      mj_T D mj_m192 162 (jLd q0 k n t x r v w (some (.long (jl (jsc V x i : Nat)))) (some (.int (jn b))) (some (.int (jn i))) l17 none l19) [] (jZ hp q1 q2 q3 bg ov db) Q := by
  intro d
  induction d with
  | zero =>
    intro i b R ov l17 l19 hi hb hta h1 h2
    have ei : i = n + 1 := by omega
    subst ei
    iterate 2 refine mj_T.pl rfl rfl rfl rfl ?_
    refine mj_T.icmp rfl ⟨by omega, by omega⟩ ⟨by omega, by omega⟩ (fun hc => ?_) (fun hc => ?_)
    · exact hend ov b R l17 l19 hb hta (fun j hj => h1 j (by omega)) (fun j hj => h2 j (by omega))
    · simp only [jc, decide_eq_false_iff_not] at hc; omega
  | succ d ih =>
    intro i b R ov l17 l19 hi hb hta h1 h2
    have hc0 := jta_le hta
    have u1 := jlb_lt U i
    have v1 := jlb_lt V i
    have hm : jlb V i * x ≤ 999999999 * 1000000000 := Nat.mul_le_mul (by omega) hx
    have hnx := jsc_next V x i
    iterate 2 refine mj_T.pl rfl rfl rfl rfl ?_
    refine mj_T.icmp rfl ⟨by omega, by omega⟩ ⟨by omega, by omega⟩ (fun hc => ?_) (fun hc => ?_)
    · simp only [jc, decide_eq_true_eq] at hc; omega
    clear hc
    have k189 : ∀ z : Int, z = (jlb V i * x : Nat) → mj_T D mj_m192 189 (jLd q0 k n t x r v w (some (.long (jl (jsc V x i : Nat)))) (some (.int (jn b))) (some (.int (jn i))) l17 none l19) [.long (jl z)] (jZ hp q1 q2 q3 bg ov db) Q := by
      intro z hz
      subst hz
      refine mj_T.pl rfl rfl rfl rfl ?_
      refine mj_T.ladd rfl ?_
      rw [show ((jlb V i * x : Nat) : Int) + ((jsc V x i : Nat) : Int) = ((jlb V i * x + jsc V x i : Nat) : Int) by omega]
      have nx0 : ∀ (c' rr : Nat), rr < jB → jlb U i + c' * jB = jlb V i * x + jsc V x i + b + rr → jta U V x (i + 1) c' (rr * jB ^ i + R) := fun c' rr hr he => jta_next hta hr (by rw [Nat.mul_comm x]; omega)
      generalize hP : jlb V i * x + jsc V x i = P at *
      have hdm := Nat.div_add_mod P 1000000000
      have hml := Nat.mod_lt P (show 0 < 1000000000 by decide)
      have hnx2 : jsc V x (i + 1) = P / 1000000000 := hnx
      iterate 3 refine mj_T.pl rfl rfl rfl rfl ?_
      refine mj_T.ldiv (b := 1000000000) rfl ⟨by omega, by omega⟩ ⟨by omega, by omega⟩ (by omega) ?_
      rw [show ((P : Nat) : Int).tdiv 1000000000 = ((jsc V x (i + 1) : Nat) : Int) by rw [hnx2]; rfl]
      iterate 2 refine mj_T.pl rfl rfl rfl rfl ?_
      refine mj_T.gov (jG_e G _) rfl ?_
      iterate 2 refine mj_T.pl rfl rfl rfl rfl ?_
      refine mj_T.iadd rfl ?_
      rw [show (k : Int) + (i : Int) = ((k + i : Nat) : Int) by omega]
      refine mj_T.old (jG_e G _) rfl ⟨by omega, by omega⟩ ⟨by omega, by omega⟩ ((h2 (k + i) (by omega)).trans (hov i (by omega))) ?_
      refine mj_T.i2l rfl ⟨by omega, by omega⟩ ?_
      iterate 2 refine mj_T.pl rfl rfl rfl rfl ?_
      refine mj_T.lrem (b := 1000000000) rfl ⟨by omega, by omega⟩ ⟨by omega, by omega⟩ (by omega) ?_
      rw [show ((P : Nat) : Int).tmod 1000000000 = ((P % 1000000000 : Nat) : Int) from rfl]
      refine mj_T.lsub rfl ?_
      refine mj_T.pl rfl rfl rfl rfl ?_
      refine mj_T.i2l rfl ⟨by omega, by omega⟩ ?_
      refine mj_T.lsub rfl ?_
      have k237 : ∀ b' rr : Nat, b' ≤ 1 → rr < 1000000000 → (rr : Int) = ((jlb U i : Nat) : Int) - ((P % 1000000000 : Nat) : Int) - (b : Int) + b' * 1000000000 → mj_T D mj_m192 237 (jLd q0 k n t x r v w (some (.long (jl (jsc V x (i + 1) : Nat)))) (some (.int (jn b))) (some (.int (jn i))) (some (.long (jl P))) none (some (.long (jl (((jlb U i : Nat) : Int) - ((P % 1000000000 : Nat) : Int) - (b : Int)))))) [.int (jn b')] (jZ hp q1 q2 q3 bg ov db) Q := by
        intro b' rr hb' hr1 hr2
        have nx := nx0 (jsc V x (i + 1) + b') rr hr1 (by
          rw [show jB = 1000000000 from rfl, hnx2]
          omega)
        iterate 2 refine mj_T.pl rfl rfl rfl rfl ?_
        refine mj_T.gov (jG_e G _) rfl ?_
        iterate 2 refine mj_T.pl rfl rfl rfl rfl ?_
        refine mj_T.iadd rfl ?_
        rw [show (k : Int) + (i : Int) = ((k + i : Nat) : Int) by omega]
        iterate 2 refine mj_T.pl rfl rfl rfl rfl ?_
        refine mj_T.i2l rfl ⟨by omega, by omega⟩ ?_
        refine mj_T.pl rfl rfl rfl rfl ?_
        refine mj_T.lmul (b := 1000000000) rfl ?_
        refine mj_T.ladd rfl ?_
        rw [← hr2]
        refine mj_T.l2i rfl ?_
        refine mj_T.ost (jG_e G _) rfl ⟨by omega, by omega⟩ ⟨by omega, by omega⟩ ?_
        refine mj_T.iinc (a := i) rfl rfl ?_
        refine mj_T.pl rfl rfl rfl rfl ?_
        refine ih (i + 1) b' (rr * jB ^ i + R) _ _ _ (by omega) hb' nx (fun j hj => ?_) (fun j hj => ?_)
        · unfold updV
          by_cases e : j = i
          · subst e
            rw [if_pos (by omega), jlb_of hr1 hta.2]
          · rw [if_neg (by omega), jlb_low (by omega)]
            exact h1 j (by omega)
        · unfold updV
          rw [if_neg (by omega)]
          exact h2 j (by omega)
      iterate 3 refine mj_T.pl rfl rfl rfl rfl ?_
      refine mj_T.lif (b := 0) rfl rfl ⟨by omega, by omega⟩ ⟨by omega, by omega⟩ (fun hc => ?_) (fun hc => ?_)
      · simp only [jc, decide_eq_true_eq] at hc
        refine mj_T.pl rfl rfl rfl rfl ?_
        exact k237 0 (jlb U i - P % 1000000000 - b) (by omega) (by omega) (by omega)
      · simp only [jc, decide_eq_false_iff_not] at hc
        iterate 2 refine mj_T.pl rfl rfl rfl rfl ?_
        exact k237 1 (jlb U i + 1000000000 - P % 1000000000 - b) (by omega) (by omega) (by omega)
    iterate 2 refine mj_T.pl rfl rfl rfl rfl ?_
    refine mj_T.icmp rfl ⟨by omega, by omega⟩ ⟨by omega, by omega⟩ (fun hc => ?_) (fun hc => ?_)
    · simp only [jc, decide_eq_true_eq] at hc
      refine mj_T.pl rfl rfl rfl rfl ?_
      refine k189 0 ?_
      rw [jlb_high (show jnl V ≤ i by omega), Nat.zero_mul]
      rfl
    · simp only [jc, decide_eq_false_iff_not] at hc
      iterate 2 refine mj_T.pl rfl rfl rfl rfl ?_
      refine mj_T.gby G rfl ?_
      refine mj_T.pl rfl rfl rfl rfl ?_
      refine mj_T.yld G rfl ⟨by omega, by omega⟩ ⟨by omega, by omega⟩ (hdb i (by omega)) ?_
      refine mj_T.i2l rfl ⟨by omega, by omega⟩ ?_
      refine mj_T.lmul rfl ?_
      refine mj_T.pl rfl rfl rfl rfl ?_
      exact k189 _ (by rw [Int.natCast_mul, Int.mul_comm])
theorem jq_dl_add (G : jG hp q0 q1 q2 q3 fs) {k n R V : Nat} {t g r v w : Int} {l13 l19 : Option Value} {b15 : Int} {ov0 : Nat → Value} (hk : k + n ≤ 1402) (hn2 : n ≤ 701) (hV : jnl V = n) (hov : ∀ j, j ≤ n → ov0 (k + j) = .int (jn (jlb R j : Nat))) (hdb : ∀ j, j < n → db j = .int (jn (jlb V j : Nat)))
    (hend : ∀ (ov : Nat → Value) (l16 l17 l18 : Option Value), (∀ j, j ≤ n → ov (k + j) = .int (jn (jlb (R + V) j : Nat))) → (∀ j, j < k ∨ k + n < j → ov j = ov0 j) → mj_T D mj_m192 355 (jLd q0 k n t g r v w l13 (some (.int (jn b15))) l16 l17 l18 l19) [] (jZ hp q1 q2 q3 bg ov db) Q) :
    ∀ (d i : Nat) (ov : Nat → Value) (l18 : Option Value), i + d = n + 1 → (∀ j, j < i → ov (k + j) = .int (jn (jlb (R + V) j : Nat))) → (∀ j, j < k ∨ k + i ≤ j → ov j = ov0 j) →
      mj_T D mj_m192 280 (jLd q0 k n t g r v w l13 (some (.int (jn b15))) (some (.int (jn (jcy R V i : Nat)))) (some (.int (jn i))) l18 l19) [] (jZ hp q1 q2 q3 bg ov db) Q := by
  intro d
  induction d with
  | zero =>
    intro i ov l18 hi h1 h2
    have ei : i = n + 1 := by omega
    subst ei
    iterate 2 refine mj_T.pl rfl rfl rfl rfl ?_
    refine mj_T.icmp rfl ⟨by omega, by omega⟩ ⟨by omega, by omega⟩ (fun hc => ?_) (fun hc => ?_)
    · exact hend ov _ _ l18 (fun j hj => h1 j (by omega)) (fun j hj => h2 j (by omega))
    · simp only [jc, decide_eq_false_iff_not] at hc; omega
  | succ d ih =>
    intro i ov l18 hi h1 h2
    have c1 := jcy_le R V i
    have c2 := jcy_le R V (i + 1)
    have u1 := jlb_lt R i
    have v1 := jlb_lt V i
    have z1 := jlb_lt (R + V) i
    have hlim : jlb (R + V) i = (jlb R i + jlb V i + jcy R V i) % 1000000000 := jcy_limb R V i
    have hnx : jcy R V (i + 1) = (jlb R i + jlb V i + jcy R V i) / 1000000000 := jcy_next R V i
    iterate 2 refine mj_T.pl rfl rfl rfl rfl ?_
    refine mj_T.icmp rfl ⟨by omega, by omega⟩ ⟨by omega, by omega⟩ (fun hc => ?_) (fun hc => ?_)
    · simp only [jc, decide_eq_true_eq] at hc; omega
    clear hc
    refine mj_T.pl rfl rfl rfl rfl ?_
    refine mj_T.gov (jG_e G _) rfl ?_
    iterate 2 refine mj_T.pl rfl rfl rfl rfl ?_
    refine mj_T.iadd rfl ?_
    rw [show (k : Int) + (i : Int) = ((k + i : Nat) : Int) by omega]
    refine mj_T.old (jG_e G _) rfl ⟨by omega, by omega⟩ ⟨by omega, by omega⟩ ((h2 (k + i) (by omega)).trans (hov i (by omega))) ?_
    have k312 : ∀ z : Int, z = (jlb V i : Nat) → mj_T D mj_m192 312 (jLd q0 k n t g r v w l13 (some (.int (jn b15))) (some (.int (jn (jcy R V i : Nat)))) (some (.int (jn i))) l18 l19) [.int (jn z), .int (jn (jlb R i : Nat))] (jZ hp q1 q2 q3 bg ov db) Q := by
      intro z hz
      subst hz
      refine mj_T.iadd rfl ?_
      refine mj_T.pl rfl rfl rfl rfl ?_
      refine mj_T.iadd rfl ?_
      rw [show ((jlb R i : Nat) : Int) + ((jlb V i : Nat) : Int) + ((jcy R V i : Nat) : Int) = ((jlb R i + jlb V i + jcy R V i : Nat) : Int) by omega]
      generalize hS : jlb R i + jlb V i + jcy R V i = S at *
      have k330 : ∀ c : Nat, c = jcy R V (i + 1) → mj_T D mj_m192 330 (jLd q0 k n t g r v w l13 (some (.int (jn b15))) (some (.int (jn (jcy R V i : Nat)))) (some (.int (jn i))) (some (.int (jn S))) l19) [.int (jn c)] (jZ hp q1 q2 q3 bg ov db) Q := by
        intro c hc
        subst hc
        iterate 2 refine mj_T.pl rfl rfl rfl rfl ?_
        refine mj_T.gov (jG_e G _) rfl ?_
        iterate 2 refine mj_T.pl rfl rfl rfl rfl ?_
        refine mj_T.iadd rfl ?_
        rw [show (k : Int) + (i : Int) = ((k + i : Nat) : Int) by omega]
        iterate 3 refine mj_T.pl rfl rfl rfl rfl ?_
        refine mj_T.imul (b := 1000000000) rfl ?_
        refine mj_T.isub rfl ?_
        rw [show (S : Int) - ((jcy R V (i + 1) : Nat) : Int) * 1000000000 = ((jlb (R + V) i : Nat) : Int) by omega]
        refine mj_T.ost (jG_e G _) rfl ⟨by omega, by omega⟩ ⟨by omega, by omega⟩ ?_
        refine mj_T.iinc (a := i) rfl rfl ?_
        refine mj_T.pl rfl rfl rfl rfl ?_
        refine ih (i + 1) _ _ (by omega) (fun j hj => ?_) (fun j hj => ?_)
        · unfold updV
          by_cases e : j = i
          · subst e; exact if_pos rfl
          · rw [if_neg (by omega)]; exact h1 j (by omega)
        · unfold updV
          rw [if_neg (by omega)]
          exact h2 j (by omega)
      iterate 3 refine mj_T.pl rfl rfl rfl rfl ?_
      refine mj_T.icmp (b := 1000000000) rfl ⟨by omega, by omega⟩ ⟨by omega, by omega⟩ (fun hc => ?_) (fun hc => ?_)
      · simp only [jc, decide_eq_true_eq] at hc
        refine mj_T.pl rfl rfl rfl rfl ?_
        exact k330 0 (by omega)
      · simp only [jc, decide_eq_false_iff_not] at hc
        iterate 2 refine mj_T.pl rfl rfl rfl rfl ?_
        exact k330 1 (by omega)
    iterate 2 refine mj_T.pl rfl rfl rfl rfl ?_
    refine mj_T.icmp rfl ⟨by omega, by omega⟩ ⟨by omega, by omega⟩ (fun hc => ?_) (fun hc => ?_)
    · simp only [jc, decide_eq_true_eq] at hc
      refine mj_T.pl rfl rfl rfl rfl ?_
      exact k312 0 (by rw [jlb_high (show jnl V ≤ i by omega)]; rfl)
    · simp only [jc, decide_eq_false_iff_not] at hc
      refine mj_T.pl rfl rfl rfl rfl ?_
      refine mj_T.gby G rfl ?_
      refine mj_T.pl rfl rfl rfl rfl ?_
      refine mj_T.yld G rfl ⟨by omega, by omega⟩ ⟨by omega, by omega⟩ (hdb i (by omega)) ?_
      refine mj_T.pl rfl rfl rfl rfl ?_
      exact k312 _ rfl
end JXD
/-! Of the reference and of numbers (as in p1, part 78u). -/
section JXE
variable {D : Nat} {hp : mj_H} {q0 q1 q2 q3 : Nat} {fs : List Value} {bg : Nat → Int32} {ov db : Nat → Value}
theorem jq_dl (G : jG hp q0 q1 q2 q3 fs) {k n U V : Nat} (hk : k + n ≤ 1402) (hn1 : 1 ≤ n) (hn2 : n ≤ 701) (hV : jnl V = n) (hnorm : 1000000000 ≤ 2 * jlb V (n - 1)) (hU : U < V * jB) (hov : ∀ j, j ≤ n → ov (k + j) = .int (jn (jlb U j : Nat))) (hdb : ∀ j, j < n → db j = .int (jn (jlb V j : Nat))) :
    mj_Ok (D + 1) 192 [.ref q0, .int (jn k), .int (jn n)] (jZ hp q1 q2 q3 bg ov db) (fun r => ∃ ov' : Nat → Value, (∀ j, j ≤ n → ov' (k + j) = .int (jn (jlb (U % V) j : Nat))) ∧ (∀ j, j < k ∨ k + n < j → ov' j = ov j) ∧ r = (.inl (some (.int (jn (U / V : Nat)))), jZ hp q1 q2 q3 bg ov' db)) := by
  obtain ⟨p, rfl⟩ : ∃ p, n = p + 1 := ⟨n - 1, by omega⟩
  rw [Nat.add_sub_cancel] at hnorm
  have hgood := jgood hV hnorm hU
  have hVlt : V < jB ^ (p + 1) := jnl_le_lt.mp (Nat.le_of_eq hV)
  have hV0 : 0 < V := Nat.pos_of_ne_zero (fun q => by rw [q, jnl_zero] at hV; omega)
  have hUlt : U < jB ^ (p + 1 + 1) := by
    rw [Nat.pow_succ]
    exact Nat.lt_trans hU (Nat.mul_lt_mul_of_pos_right hVlt (by decide))
  have hqB : U / V < 1000000000 := by rw [Nat.div_lt_iff_lt_mul hV0, Nat.mul_comm]; exact hU
  have hT : jlb U (p + 1) * jB + jlb U p < (jlb V p + 1) * jB := by
    have ht : U / jB ^ p = jlb U (p + 1) * jB + jlb U p := by rw [jdiv U p, jtop_eq hUlt]
    have hVl : V < (jlb V p + 1) * jB ^ p := by
      rw [← jtop_eq hVlt, Nat.mul_comm]
      exact Nat.lt_mul_div_succ V (jB_pow p)
    rw [← ht, Nat.div_lt_iff_lt_mul (jB_pow p)]
    refine Nat.lt_of_lt_of_le hU ?_
    rw [Nat.mul_assoc, Nat.mul_comm jB, ← Nat.mul_assoc]
    exact Nat.mul_le_mul_right _ (Nat.le_of_lt hVl)
  have ul := jlb_lt U (p + 1)
  have ul2 := jlb_lt U p
  have vl := jlb_lt V p
  have hv2 : (if 1 < p + 1 then jlb V (p + 1 - 2) else 0) < 1000000000 := by split <;> first | exact jlb_lt _ _ | decide
  have hu2 : (if 1 < p + 1 then jlb U (p + 1 - 2) else 0) < 1000000000 := by split <;> first | exact jlb_lt _ _ | decide
  have hT2 : ((jlb U (p + 1) : Nat) : Int) * 1000000000 + ((jlb U p : Nat) : Int) = ((jlb U (p + 1) * jB + jlb U p : Nat) : Int) := by rw [Int.natCast_add, Int.natCast_mul]; rfl
  have hTb : jlb U (p + 1) * jB + jlb U p < 1000000000000000001 := by
    have : jlb U (p + 1) * jB ≤ 999999999 * 1000000000 := Nat.mul_le_mul (by omega) (Nat.le_refl _)
    omega
  have hT : jlb U (p + 1) * jB + jlb U p < (jlb V p + 1) * 1000000000 := hT
  generalize hTT : jlb U (p + 1) * jB + jlb U p = T at *
  generalize hll : jlb V p = l at *
  -- once the guess is made
  have cont : ∀ (x r : Nat), x = (jgn l (if 1 < p + 1 then jlb V (p + 1 - 2) else 0) (if 1 < p + 1 then jlb U (p + 1 - 2) else 0) 2 (T / l, T % l)).1 → mj_T D mj_m192 153 (jLd q0 k (p + 1) T x r (if 1 < p + 1 then jlb V (p + 1 - 2) else 0 : Nat) (if 1 < p + 1 then jlb U (p + 1 - 2) else 0 : Nat) none none none none none none) [] (jZ hp q1 q2 q3 bg ov db)
      (fun r => ∃ ov' : Nat → Value, (∀ j, j ≤ p + 1 → ov' (k + j) = .int (jn (jlb (U % V) j : Nat))) ∧ (∀ j, j < k ∨ k + (p + 1) < j → ov' j = ov j) ∧ r = (.inl (some (.int (jn (U / V : Nat)))), jZ hp q1 q2 q3 bg ov' db)) := by
    intro x r hx
    rw [← hx] at hgood
    clear hx
    have hVlt2 : V < jB ^ (p + 1 + 1) := Nat.lt_trans hVlt (Nat.pow_lt_pow_right (by decide) (by omega))
    have hc0 : jsc V x (p + 1 + 1) = 0 := by
      unfold jsc
      rw [Nat.mod_eq_of_lt hVlt2]
      refine Nat.div_eq_of_lt ?_
      rw [Nat.pow_succ jB (p + 1)]
      have hxB : x ≤ jB := by show x ≤ 1000000000; omega
      exact Nat.lt_of_le_of_lt (Nat.mul_le_mul_left V hxB) (Nat.mul_lt_mul_of_pos_right hVlt (by decide))
    iterate 6 refine mj_T.pl rfl rfl rfl rfl ?_
    refine mj_T.eq (jq_dl_sub G (k := k) (n := p + 1) (U := U) (V := V) (x := x) (t := T) (r := r) (v := (if 1 < p + 1 then jlb V (p + 1 - 2) else 0 : Nat)) (w := (if 1 < p + 1 then jlb U (p + 1 - 2) else 0 : Nat)) (ov0 := ov) hk hn2 hV (by omega) hov hdb (fun ov1 b R l17 l19 hb hta h1 h2 => ?_) (p + 1 + 1) 0 0 0 ov none none (by omega) (by omega) (by rw [jsc_zero]; exact jta_zero U V x) (fun j hj => by omega) (fun j _ => rfl)) rfl ?_ rfl rfl
    rotate_left
    · rw [jsc_zero]; rfl
    rw [hc0, Nat.zero_add] at hta
    have htq := jta_q hVlt2 hV0 (Nat.div_eq_of_lt hUlt) hta
    refine mj_T.pl rfl rfl rfl rfl ?_
    refine mj_T.if0 rfl ⟨by omega, by omega⟩ (fun hc => ?_) (fun hc => ?_)
    · simp only [jc, Bool.not_eq_true', decide_eq_false_iff_not] at hc
      have hxq : x = U / V + 1 := by
        rcases (show x = U / V ∨ x = U / V + 1 by omega) with h | h
        · have := (htq.1 h).1; omega
        · exact h
      have hR := (htq.2 hxq).2
      iterate 4 refine mj_T.pl rfl rfl rfl rfl ?_
      refine mj_T.eq (jq_dl_add G (k := k) (n := p + 1) (R := R) (V := V) (t := T) (g := x) (r := r) (v := (if 1 < p + 1 then jlb V (p + 1 - 2) else 0 : Nat)) (w := (if 1 < p + 1 then jlb U (p + 1 - 2) else 0 : Nat)) (l13 := some (.long (jl (jsc V x (p + 1 + 1) : Nat)))) (b15 := (b : Nat)) (l19 := l19) (ov0 := ov1) hk hn2 hV h1 hdb (fun ov2 l16 l17 l18 k1 k2 => ?_) (p + 1 + 1) 0 ov1 none (by omega) (fun j hj => by omega) (fun j _ => rfl)) rfl ?_ rfl rfl
      · refine mj_T.pl rfl rfl rfl rfl ?_
        refine mj_T.l2i rfl ?_
        refine mj_T.pl rfl rfl rfl rfl ?_
        refine mj_T.isub (b := 1) rfl ?_
        rw [show (x : Int) - 1 = ((U / V : Nat) : Int) by omega]
        refine mj_T.ret rfl rfl rfl ⟨ov2, fun j hj => ?_, fun j hj => (k2 j hj).trans (h2 j hj), rfl⟩
        rw [k1 j hj, hR, jlb_low (by omega)]
      · rw [jcy_zero]; rfl
    · simp only [jc, Bool.not_eq_false', decide_eq_true_eq] at hc
      have hxq : x = U / V := by
        rcases (show x = U / V ∨ x = U / V + 1 by omega) with h | h
        · exact h
        · have := (htq.2 h).1; omega
      have hR := (htq.1 hxq).2
      refine mj_T.pl rfl rfl rfl rfl ?_
      refine mj_T.l2i rfl ?_
      rw [hxq]
      exact mj_T.ret rfl rfl rfl ⟨ov1, fun j hj => by rw [h1 j hj, hR], h2, rfl⟩
  have hl0 : 0 < l := by omega
  have hG1 : T / l < 1000000002 := by
    rw [Nat.div_lt_iff_lt_mul hl0]
    omega
  have hr := Nat.mod_lt T hl0
  generalize hv2e : (if 1 < p + 1 then jlb V (p + 1 - 2) else 0) = v2 at *
  generalize hu2e : (if 1 < p + 1 then jlb U (p + 1 - 2) else 0) = u2 at *
  have eB : jB = 1000000000 := rfl
  have hdl : db p = .int (jn (l : Nat)) := by rw [← hll]; exact hdb p (by omega)
  refine mj_Ok.of (M := mj_m192) rfl rfl rfl ?_
  refine mj_T.pl rfl rfl rfl rfl ?_
  refine mj_T.gov (jG_e G _) rfl ?_
  iterate 2 refine mj_T.pl rfl rfl rfl rfl ?_
  refine mj_T.iadd rfl ?_
  rw [show (k : Int) + ((p + 1 : Nat) : Int) = ((k + (p + 1) : Nat) : Int) by omega]
  refine mj_T.old (jG_e G _) rfl ⟨by omega, by omega⟩ ⟨by omega, by omega⟩ (hov (p + 1) (Nat.le_refl _)) ?_
  refine mj_T.i2l rfl ⟨by omega, by omega⟩ ?_
  refine mj_T.pl rfl rfl rfl rfl ?_
  refine mj_T.lmul (b := 1000000000) rfl ?_
  refine mj_T.pl rfl rfl rfl rfl ?_
  refine mj_T.gov (jG_e G _) rfl ?_
  iterate 2 refine mj_T.pl rfl rfl rfl rfl ?_
  refine mj_T.iadd rfl ?_
  refine mj_T.pl rfl rfl rfl rfl ?_
  refine mj_T.isub (b := 1) rfl ?_
  rw [show (k : Int) + ((p + 1 : Nat) : Int) - 1 = ((k + p : Nat) : Int) by omega]
  refine mj_T.old (jG_e G _) rfl ⟨by omega, by omega⟩ ⟨by omega, by omega⟩ (hov p (by omega)) ?_
  refine mj_T.i2l rfl ⟨by omega, by omega⟩ ?_
  refine mj_T.ladd rfl ?_
  rw [hT2]
  iterate 3 refine mj_T.pl rfl rfl rfl rfl ?_
  refine mj_T.gby G rfl ?_
  iterate 2 refine mj_T.pl rfl rfl rfl rfl ?_
  refine mj_T.isub (b := 1) rfl ?_
  rw [show ((p + 1 : Nat) : Int) - 1 = (p : Int) by omega]
  refine mj_T.yld G rfl ⟨by omega, by omega⟩ ⟨by omega, by omega⟩ hdl ?_
  refine mj_T.i2l rfl ⟨by omega, by omega⟩ ?_
  refine mj_T.ldiv rfl ⟨by omega, by omega⟩ ⟨by omega, by omega⟩ (by omega) ?_
  rw [show ((T : Nat) : Int).tdiv ((l : Nat) : Int) = ((T / l : Nat) : Int) from rfl]
  iterate 3 refine mj_T.pl rfl rfl rfl rfl ?_
  refine mj_T.gby G rfl ?_
  iterate 2 refine mj_T.pl rfl rfl rfl rfl ?_
  refine mj_T.isub (b := 1) rfl ?_
  rw [show ((p + 1 : Nat) : Int) - 1 = (p : Int) by omega]
  refine mj_T.yld G rfl ⟨by omega, by omega⟩ ⟨by omega, by omega⟩ hdl ?_
  refine mj_T.i2l rfl ⟨by omega, by omega⟩ ?_
  refine mj_T.lrem rfl ⟨by omega, by omega⟩ ⟨by omega, by omega⟩ (by omega) ?_
  rw [show ((T : Nat) : Int).tmod ((l : Nat) : Int) = ((T % l : Nat) : Int) from rfl]
  have k92 : ∀ z : Int, z = (u2 : Nat) → mj_T D mj_m192 92 [some (.ref q0), some (.int (jn k)), some (.int (jn (p + 1 : Nat))), some (.long (jl T)), none, some (.long (jl (T / l : Nat))), none, some (.long (jl (T % l : Nat))), none, some (.long (jl v2)), none, none, none, none, none, none, none, none, none, none, none] [.long (jl z)] (jZ hp q1 q2 q3 bg ov db)
      (fun r => ∃ ov' : Nat → Value, (∀ j, j ≤ p + 1 → ov' (k + j) = .int (jn (jlb (U % V) j : Nat))) ∧ (∀ j, j < k ∨ k + (p + 1) < j → ov' j = ov j) ∧ r = (.inl (some (.int (jn (U / V : Nat)))), jZ hp q1 q2 q3 bg ov' db)) := by
    intro z hz
    subst hz
    refine mj_T.pl rfl rfl rfl rfl ?_
    refine jq_dl_guess G (k := k) (n := p + 1) (p1 := T / l) (p2 := T % l) (l := l) (v2 := v2) (u2 := u2) (t := T) (by omega) hn2 vl hv2 hu2 (by omega) (by omega) (fun h => ?_) hdl (fun hc => ?_) (fun hc hlt => ?_) (fun hc hge => ?_)
    · rcases h with h | h
      · omega
      · exact Nat.pos_of_ne_zero (fun q => by rw [q, Nat.zero_mul] at h; omega)
    · have e : jgs l v2 u2 (T / l, T % l) = (T / l, T % l) := if_neg (fun h => hc h.2)
      refine cont _ _ ?_
      show T / l = (jgs l v2 u2 (jgs l v2 u2 (T / l, T % l))).1
      rw [e, e]
    · have e : jgs l v2 u2 (T / l, T % l) = (T / l - 1, T % l + l) := if_pos ⟨show T % l < jB by omega, hc⟩
      refine jq_dl_guess G (k := k) (n := p + 1) (p1 := T / l - 1) (p2 := T % l + l) (l := l) (v2 := v2) (u2 := u2) (t := T) (by omega) hn2 vl hv2 hu2 (by omega) hlt (fun h => ?_) hdl (fun hc2 => ?_) (fun hc2 hlt2 => ?_) (fun hc2 hge2 => ?_)
      · rcases h with h | h
        · omega
        · exact Nat.pos_of_ne_zero (fun q => by rw [q, Nat.zero_mul] at h; omega)
      · have e2 : jgs l v2 u2 (T / l - 1, T % l + l) = (T / l - 1, T % l + l) := if_neg (fun h => hc2 h.2)
        refine cont _ _ ?_
        show T / l - 1 = (jgs l v2 u2 (jgs l v2 u2 (T / l, T % l))).1
        rw [e, e2]
      · omega
      · have e2 : jgs l v2 u2 (T / l - 1, T % l + l) = (T / l - 1 - 1, T % l + l + l) := if_pos ⟨show T % l + l < jB by omega, hc2⟩
        refine cont _ _ ?_
        show T / l - 1 - 1 = (jgs l v2 u2 (jgs l v2 u2 (T / l, T % l))).1
        rw [e, e2]
    · have e : jgs l v2 u2 (T / l, T % l) = (T / l - 1, T % l + l) := if_pos ⟨show T % l < jB by omega, hc⟩
      have e2 : jgs l v2 u2 (T / l - 1, T % l + l) = (T / l - 1, T % l + l) := if_neg (fun h => hge h.1)
      refine cont _ _ ?_
      show T / l - 1 = (jgs l v2 u2 (jgs l v2 u2 (T / l, T % l))).1
      rw [e, e2]
  have k70 : ∀ z : Int, z = (v2 : Nat) → mj_T D mj_m192 70 [some (.ref q0), some (.int (jn k)), some (.int (jn (p + 1 : Nat))), some (.long (jl T)), none, some (.long (jl (T / l : Nat))), none, some (.long (jl (T % l : Nat))), none, none, none, none, none, none, none, none, none, none, none, none, none] [.long (jl z)] (jZ hp q1 q2 q3 bg ov db)
      (fun r => ∃ ov' : Nat → Value, (∀ j, j ≤ p + 1 → ov' (k + j) = .int (jn (jlb (U % V) j : Nat))) ∧ (∀ j, j < k ∨ k + (p + 1) < j → ov' j = ov j) ∧ r = (.inl (some (.int (jn (U / V : Nat)))), jZ hp q1 q2 q3 bg ov' db)) := by
    intro z hz
    subst hz
    iterate 3 refine mj_T.pl rfl rfl rfl rfl ?_
    refine mj_T.icmp (b := 1) rfl ⟨by omega, by omega⟩ ⟨by omega, by omega⟩ (fun hc => ?_) (fun hc => ?_)
    · simp only [jc, decide_eq_true_eq] at hc
      refine mj_T.pl rfl rfl rfl rfl ?_
      exact k92 0 (by rw [← hu2e, if_neg (by omega)]; rfl)
    · simp only [jc, decide_eq_false_iff_not] at hc
      refine mj_T.pl rfl rfl rfl rfl ?_
      refine mj_T.gov (jG_e G _) rfl ?_
      iterate 2 refine mj_T.pl rfl rfl rfl rfl ?_
      refine mj_T.iadd rfl ?_
      refine mj_T.pl rfl rfl rfl rfl ?_
      refine mj_T.isub (b := 2) rfl ?_
      rw [show (k : Int) + ((p + 1 : Nat) : Int) - 2 = ((k + (p + 1 - 2) : Nat) : Int) by omega]
      refine mj_T.old (jG_e G _) rfl ⟨by omega, by omega⟩ ⟨by omega, by omega⟩ (hov (p + 1 - 2) (by omega)) ?_
      have e5 : jlb U (p + 1 - 2) = u2 := by rw [← hu2e, if_pos (by omega)]
      rw [e5]
      refine mj_T.i2l rfl ⟨by omega, by omega⟩ ?_
      refine mj_T.pl rfl rfl rfl rfl ?_
      exact k92 _ rfl
  iterate 3 refine mj_T.pl rfl rfl rfl rfl ?_
  refine mj_T.icmp (b := 1) rfl ⟨by omega, by omega⟩ ⟨by omega, by omega⟩ (fun hc => ?_) (fun hc => ?_)
  · simp only [jc, decide_eq_true_eq] at hc
    refine mj_T.pl rfl rfl rfl rfl ?_
    exact k70 0 (by rw [← hv2e, if_neg (by omega)]; rfl)
  · simp only [jc, decide_eq_false_iff_not] at hc
    refine mj_T.pl rfl rfl rfl rfl ?_
    refine mj_T.gby G rfl ?_
    iterate 2 refine mj_T.pl rfl rfl rfl rfl ?_
    refine mj_T.isub (b := 2) rfl ?_
    rw [show ((p + 1 : Nat) : Int) - 2 = ((p + 1 - 2 : Nat) : Int) by omega]
    refine mj_T.yld G rfl ⟨by omega, by omega⟩ ⟨by omega, by omega⟩ (hdb (p + 1 - 2) (by omega)) ?_
    have e5 : jlb V (p + 1 - 2) = v2 := by rw [← hv2e, if_pos (by omega)]
    rw [e5]
    refine mj_T.i2l rfl ⟨by omega, by omega⟩ ?_
    refine mj_T.pl rfl rfl rfl rfl ?_
    exact k70 _ rfl
end JXE
/-! Of the reference and of numbers (as in p1, part 78v). -/
section JXC
variable {D : Nat} {hp : mj_H} {q0 q1 q2 q3 : Nat} {fs : List Value} {bg : Nat → Int32} {ov db : Nat → Value}
theorem jq_scales_o (G : jG hp q0 q1 q2 q3 fs) {n x fa : Nat} (hn : n < 1404) (hx : jnl x ≤ n) (hfa : 0 < fa) (hfa2 : fa ≤ 1000000000) (hf : ∀ j, j < n → ov j = .int (jn (jlb x j : Nat))) :
    mj_Ok (D + 1) 190 [.ref q2, .int (jn n), .int (jn fa)] (jZ hp q1 q2 q3 bg ov db) (fun r => ∃ ov' : Nat → Value, (∀ j, j ≤ n → ov' j = .int (jn (jlb (x * fa) j : Nat))) ∧ r = (.inl none, jZ hp q1 q2 q3 bg ov' db)) := by
  have E := jG_e G (.inl (0, 702, db))
  have c := jq_scales (D := D) (h := jZ hp q1 q2 q3 bg ov db) (p := q2) (N := 1404) (f := ov) (n := n) (x := x) (fa := fa) (by rw [jX_len, List.length_set]; exact E.2.2.2.2) (by omega) hn hx hfa hfa2 hf
  rw [jY_set E] at c
  refine c.to (fun r hr => ?_)
  obtain ⟨f', h1, h2⟩ := hr
  rw [jY_set E] at h2
  exact ⟨f', h1, h2⟩
theorem jq_scales_y (G : jG hp q0 q1 q2 q3 fs) {n x fa : Nat} (hn : n < 702) (hx : jnl x ≤ n) (hfa : 0 < fa) (hfa2 : fa ≤ 1000000000) (hf : ∀ j, j < n → db j = .int (jn (jlb x j : Nat))) :
    mj_Ok (D + 1) 190 [.ref q3, .int (jn n), .int (jn fa)] (jZ hp q1 q2 q3 bg ov db) (fun r => ∃ db' : Nat → Value, (∀ j, j ≤ n → db' j = .int (jn (jlb (x * fa) j : Nat))) ∧ r = (.inl none, jZ hp q1 q2 q3 bg ov db')) := by
  have c := jq_scales (D := D) (h := jZ hp q1 q2 q3 bg ov db) (p := q3) (N := 702) (f := db) (n := n) (x := x) (fa := fa) (by rw [jX_len, List.length_set, List.length_set]; exact G.2.2.2.2.2) (by omega) hn hx hfa hfa2 hf
  rw [jZ_set G] at c
  refine c.to (fun r hr => ?_)
  obtain ⟨f', h1, h2⟩ := hr
  rw [jZ_set G] at h2
  exact ⟨f', h1, h2⟩
/-- a piece of the great row comes into another row -/
theorem jX_cpo {h : mj_H} {b p N s n : Nat} {bg : Nat → Int32} {f : Nat → Value} (hb : h[b]? = some (.inl (0, 466830, fun j => .int (bg j)))) (hp : h[p]? = some (.inl (0, N, f))) (h1 : s + n ≤ 466830) (h2 : n ≤ N) : mj_prim 4 [.int (jn (n : Nat)), .int (jn 0), .ref p, .int (jn (s : Nat)), .ref b] h = some ([], h.set p (.inl (0, N, va_cpy (fun j => .int (bg j)) f s 0 n))) := by
  have hs : jr (s : Int) := ⟨by omega, by omega⟩
  have hn : jr (n : Int) := ⟨by omega, by omega⟩
  have z : jr 0 := ⟨by omega, by omega⟩
  have e1 : (jn (s : Nat)).toNatClampNeg = s := by rw [jn_nat (by omega) hs]; rfl
  have e2 : (jn 0).toNatClampNeg = 0 := by rw [jn_nat (by omega) z]; rfl
  have e3 : (jn (n : Nat)).toNatClampNeg = n := by rw [jn_nat (by omega) hn]; rfl
  have g : ∀ k : Int, 0 ≤ k → jr k → (0 : Int32) ≤ jn k := fun k h0 hk => by
    rw [show (0 : Int32) = jn 0 from rfl, jn_le z hk]; exact h0
  simp only [mj_prim, hb, hp, e1, e2, e3]
  rw [if_pos ⟨Nat.le_of_ble_eq_true rfl, trivial, Or.inl trivial, g _ (by omega) hs, g 0 (by omega) z, g _ (by omega) hn, h1, by omega, by simp [mj_cpok, mj_isint]⟩]
theorem jq_cut_loop (G : jG hp q0 q1 q2 q3 fs) {q r a b n m f X V : Nat} {bg0 : Nat → Int32} (hq : q < 665) (hn : 1 ≤ n) (hnm : n + m ≤ 700) (hV : jnl V = n) (hnorm : 1000000000 ≤ 2 * jlb V (n - 1)) (hdb : ∀ j, j < n → db j = .int (jn (jlb V j : Nat))) {Q : mj_R → Prop}
    (hend : ∀ (bg : Nat → Int32) (ov : Nat → Value), (∀ j, j ≤ n + m → ov j = .int (jn (jlb (X % V) j : Nat))) → (∀ j, j ≤ m → bg (q * 702 + 2 + j) = jn (jlb (X / V) j : Nat)) → (∀ p, (∀ j, j ≤ m → p ≠ q * 702 + 2 + j) → bg p = bg0 p) → mj_T (D + 1) mj_m191 167 [some (.ref q0), some (.int (jn q)), some (.int (jn r)), some (.int (jn a)), some (.int (jn b)), some (.int (jn n)), some (.int (jn m)), some (.int (jn f)), some (.int (jn (-1))), none, none, none, none] [] (jZ hp q1 q2 q3 bg ov db) Q) :
    ∀ (k : Nat) (bg : Nat → Int32) (ov : Nat → Value), k ≤ m + 1 → (∀ j, j ≤ n + m → ov j = .int (jn (jlb (jyk X V k) j : Nat))) → (∀ j, k ≤ j → j ≤ m → bg (q * 702 + 2 + j) = jn (jlb (X / V) j : Nat)) → (∀ p, (∀ j, j ≤ m → p ≠ q * 702 + 2 + j) → bg p = bg0 p) →
      mj_T (D + 1) mj_m191 133 [some (.ref q0), some (.int (jn q)), some (.int (jn r)), some (.int (jn a)), some (.int (jn b)), some (.int (jn n)), some (.int (jn m)), some (.int (jn f)), some (.int (jn ((k : Int) - 1))), none, none, none, none] [] (jZ hp q1 q2 q3 bg ov db) Q := by
  have hVB : V < jB ^ n := jnl_le_lt.mp (Nat.le_of_eq hV)
  have hV0 : 0 < V := Nat.pos_of_ne_zero (fun e => by rw [e, jnl_zero] at hV; omega)
  intro k
  induction k with
  | zero =>
    intro bg ov hk h1 h2 h3
    refine mj_T.pl rfl rfl rfl rfl ?_
    refine mj_T.if0 rfl ⟨by omega, by omega⟩ (fun hc => ?_) (fun hc => ?_)
    · refine hend bg ov (fun j hj => ?_) (fun j hj => h2 j (Nat.zero_le _) hj) h3
      rw [h1 j hj]
      simp [jyk, Nat.mod_one]
    · simp only [jc, decide_eq_false_iff_not] at hc; omega
  | succ k ih =>
    intro bg ov hk h1 h2 h3
    rw [show ((k + 1 : Nat) : Int) - 1 = (k : Int) by omega]
    have hUd := jyk_div X V k
    have hR := Nat.mod_lt (X / jB ^ (k + 1)) hV0
    have hUlt : jyk X V (k + 1) / jB ^ k < V * jB := by
      rw [hUd]
      have h1 : jlb X k < jB := jlb_lt X k
      refine Nat.lt_of_lt_of_le (Nat.add_lt_add_left h1 _) ?_
      rw [← Nat.succ_mul]
      exact Nat.mul_le_mul_right _ hR
    have hql : jlb (X / V) k = jyk X V (k + 1) / jB ^ k / V := by rw [hUd]; exact jcut_limb hV0
    have hrl : X / jB ^ k % V = jyk X V (k + 1) / jB ^ k % V := by rw [hUd]; exact jcut_rest hV0
    have hsh : ∀ j, jlb (jyk X V (k + 1)) (k + j) = jlb (jyk X V (k + 1) / jB ^ k) j := fun j => (jlb_shift _ _ _).symm
    have hq1 := jlb_lt (X / V) k
    refine mj_T.pl rfl rfl rfl rfl ?_
    refine mj_T.if0 rfl ⟨by omega, by omega⟩ (fun hc => ?_) (fun hc => ?_)
    · simp only [jc, decide_eq_true_eq] at hc; omega
    clear hc
    refine mj_T.pl rfl rfl rfl rfl ?_
    refine mj_T.gb (jE_c (jG_e G _) _) rfl ?_
    iterate 2 refine mj_T.pl rfl rfl rfl rfl ?_
    refine mj_T.imul (b := 702) rfl ?_
    refine mj_T.pl rfl rfl rfl rfl ?_
    refine mj_T.iadd (b := 2) rfl ?_
    refine mj_T.pl rfl rfl rfl rfl ?_
    refine mj_T.iadd rfl ?_
    rw [show (q : Int) * 702 + 2 + (k : Int) = ((q * 702 + 2 + k : Nat) : Int) by omega]
    iterate 3 refine mj_T.pl rfl rfl rfl rfl ?_
    refine mj_T.call (ins := .invokevirtual 98) rfl rfl (Nat.le_of_ble_eq_true rfl) (Nat.le_of_ble_eq_true rfl) (by simp [mj_recv, jX_a (jE_c (jG_e G _) _)]) rfl (jq_dl (D := D) G (k := k) (n := n) (U := jyk X V (k + 1) / jB ^ k) (V := V) (by omega) hn (by omega) hV hnorm hUlt (fun j hj => by rw [h1 (k + j) (by omega), hsh]) hdb) (fun v' h' hq' => ?_) (fun i h' hq' => by obtain ⟨_, _, _, h⟩ := hq'; cases h)
    obtain ⟨ov', k1, k2, h⟩ := hq'
    cases h
    rw [← hql]
    refine mj_T.xst (jE_c (jG_e G _) _) rfl ⟨by omega, by omega⟩ ⟨by omega, by omega⟩ ?_
    refine mj_T.iinc (a := k) rfl rfl ?_
    refine mj_T.pl rfl rfl rfl rfl ?_
    refine ih _ ov' (by omega) (fun j hj => ?_) (fun j hj hj2 => ?_) (fun p hp => ?_)
    · have hUV : (jyk X V (k + 1) / jB ^ k) % V < jB ^ n := Nat.lt_trans (Nat.mod_lt _ hV0) hVB
      rcases Nat.lt_or_ge j k with h | h
      · rw [k2 j (Or.inl h), h1 j hj, jyk_low (by omega), jyk_low h]
      · obtain ⟨i, rfl⟩ : ∃ i, j = k + i := ⟨j - k, by omega⟩
        rw [jyk_high, hrl]
        rcases Nat.lt_or_ge n i with h4 | h4
        · rw [k2 (k + i) (Or.inr (by omega)), h1 (k + i) hj, jlb_high (show jnl (jyk X V (k + 1) / jB ^ k % V) ≤ i by have := jnl_of hUV; omega)]
          rw [show k + i = k + 1 + (i - 1) by omega, jyk_high]
          rw [jlb_high (show jnl (X / jB ^ (k + 1) % V) ≤ i - 1 by have := jnl_of (Nat.lt_trans hR hVB); omega)]
        · exact k1 i h4
    · unfold upd
      by_cases e : j = k
      · subst e; exact if_pos rfl
      · rw [if_neg (by omega)]; exact h2 j (by omega) hj2
    · unfold upd
      rw [if_neg (fun e => hp k (by omega) (by omega))]
      exact h3 p hp
theorem jq_cut_rest (G : jG hp q0 q1 q2 q3 fs) {q r a b n m f R : Nat} {bg0 : Nat → Int32} (hr : r < 665) (hn : 1 ≤ n) (hn2 : n ≤ 700) (hf : 0 < f) (hf2 : f ≤ 1000000000) (hRn : jnl R ≤ n) (hov : ∀ j, j < n → ov j = .int (jn (jlb R j : Nat))) {Q : mj_R → Prop}
    (hend : ∀ (bg : Nat → Int32) (l8 l11 : Option Value), (∀ j, j < n → bg (r * 702 + 2 + j) = jn (jlb (R / f) j : Nat)) → (∀ p, (∀ j, j < n → p ≠ r * 702 + 2 + j) → bg p = bg0 p) → mj_T D mj_m191 265 [some (.ref q0), some (.int (jn q)), some (.int (jn r)), some (.int (jn a)), some (.int (jn b)), some (.int (jn n)), some (.int (jn m)), some (.int (jn f)), l8, none, some (.int (jn (-1))), l11, none] [] (jZ hp q1 q2 q3 bg ov db) Q) :
    ∀ (k : Nat) (bg : Nat → Int32) (l11 : Option Value), k ≤ n → (∀ j, k ≤ j → j < n → bg (r * 702 + 2 + j) = jn (jlb (R / f) j : Nat)) → (∀ p, (∀ j, j < n → p ≠ r * 702 + 2 + j) → bg p = bg0 p) →
      mj_T D mj_m191 207 [some (.ref q0), some (.int (jn q)), some (.int (jn r)), some (.int (jn a)), some (.int (jn b)), some (.int (jn n)), some (.int (jn m)), some (.int (jn f)), some (.long (jl (R / jB ^ k % f : Nat))), none, some (.int (jn ((k : Int) - 1))), l11, none] [] (jZ hp q1 q2 q3 bg ov db) Q := by
  intro k
  induction k with
  | zero =>
    intro bg l11 hk h1 h2
    refine mj_T.pl rfl rfl rfl rfl ?_
    refine mj_T.if0 rfl ⟨by omega, by omega⟩ (fun hc => ?_) (fun hc => ?_)
    · exact hend bg _ l11 (fun j hj => h1 j (Nat.zero_le _) hj) h2
    · simp only [jc, decide_eq_false_iff_not] at hc; omega
  | succ k ih =>
    intro bg l11 hk h1 h2
    rw [show ((k + 1 : Nat) : Int) - 1 = (k : Int) by omega]
    have x1 := jlb_lt R k
    have z1 := jlb_lt (R / f) k
    have hr0 := Nat.mod_lt (R / jB ^ (k + 1)) hf
    have hlim := jcut_limb (x := R) (f := f) (i := k) hf
    have hrest := jcut_rest (x := R) (f := f) (i := k) hf
    refine mj_T.pl rfl rfl rfl rfl ?_
    refine mj_T.if0 rfl ⟨by omega, by omega⟩ (fun hc => ?_) (fun hc => ?_)
    · simp only [jc, decide_eq_true_eq] at hc; omega
    clear hc
    generalize hW : R / jB ^ (k + 1) % f = W at *
    have hlim : jlb (R / f) k = (W * 1000000000 + jlb R k) / f := hlim
    have hrest : R / jB ^ k % f = (W * 1000000000 + jlb R k) % f := hrest
    iterate 2 refine mj_T.pl rfl rfl rfl rfl ?_
    refine mj_T.lmul (b := 1000000000) rfl ?_
    refine mj_T.pl rfl rfl rfl rfl ?_
    refine mj_T.gov (jG_e G _) rfl ?_
    refine mj_T.pl rfl rfl rfl rfl ?_
    refine mj_T.old (jG_e G _) rfl ⟨by omega, by omega⟩ ⟨by omega, by omega⟩ (hov k (by omega)) ?_
    refine mj_T.i2l rfl ⟨by omega, by omega⟩ ?_
    refine mj_T.ladd rfl ?_
    rw [show (W : Int) * 1000000000 + ((jlb R k : Nat) : Int) = ((W * 1000000000 + jlb R k : Nat) : Int) by rw [Int.natCast_add, Int.natCast_mul]; rfl]
    have hb2 : W * 1000000000 + jlb R k ≤ 1000000000000000000 := by omega
    iterate 2 refine mj_T.pl rfl rfl rfl rfl ?_
    refine mj_T.gb (jE_c (jG_e G _) _) rfl ?_
    iterate 2 refine mj_T.pl rfl rfl rfl rfl ?_
    refine mj_T.imul (b := 702) rfl ?_
    refine mj_T.pl rfl rfl rfl rfl ?_
    refine mj_T.iadd (b := 2) rfl ?_
    refine mj_T.pl rfl rfl rfl rfl ?_
    refine mj_T.iadd rfl ?_
    rw [show (r : Int) * 702 + 2 + (k : Int) = ((r * 702 + 2 + k : Nat) : Int) by omega]
    iterate 2 refine mj_T.pl rfl rfl rfl rfl ?_
    refine mj_T.i2l rfl ⟨by omega, by omega⟩ ?_
    refine mj_T.ldiv rfl ⟨by omega, by omega⟩ ⟨by omega, by omega⟩ (by omega) ?_
    rw [show ((W * 1000000000 + jlb R k : Nat) : Int).tdiv (f : Int) = ((jlb (R / f) k : Nat) : Int) by rw [hlim]; rfl]
    refine mj_T.l2i rfl ?_
    refine mj_T.xst (jE_c (jG_e G _) _) rfl ⟨by omega, by omega⟩ ⟨by omega, by omega⟩ ?_
    iterate 2 refine mj_T.pl rfl rfl rfl rfl ?_
    refine mj_T.i2l rfl ⟨by omega, by omega⟩ ?_
    refine mj_T.lrem rfl ⟨by omega, by omega⟩ ⟨by omega, by omega⟩ (by omega) ?_
    rw [show ((W * 1000000000 + jlb R k : Nat) : Int).tmod (f : Int) = ((R / jB ^ k % f : Nat) : Int) by rw [hrest]; rfl]
    refine mj_T.pl rfl rfl rfl rfl ?_
    refine mj_T.iinc (a := k) rfl rfl ?_
    refine mj_T.pl rfl rfl rfl rfl ?_
    refine ih _ _ (by omega) (fun j hj hj2 => ?_) (fun p hp => ?_)
    · unfold upd
      by_cases e : j = k
      · subst e; exact if_pos rfl
      · rw [if_neg (by omega)]; exact h1 j (by omega) hj2
    · unfold upd
      rw [if_neg (fun e => hp k (by omega) (by omega))]
      exact h2 p hp
end JXC
/-! Of the reference and of numbers (as in p1, part 78w). -/
theorem jrf_up {bg bg' : Nat → Int32} {s : Nat} {x : Int32} (h : jrf bg bg' s) : jrf bg (upd bg' (s * 702) x) s := fun j hj => by
  unfold upd
  rw [if_neg (by omega)]
  exact h j hj
theorem jrf_tr {bg bg' bg2 : Nat → Int32} {s : Nat} (h : jrf bg bg' s) (h2 : jrf bg' bg2 s) : jrf bg bg2 s := fun j hj => (h2 j hj).trans (h j hj)
section JXQ
variable {D : Nat} {hp : mj_H} {q0 q1 q2 q3 : Nat} {fs : List Value} {bg : Nat → Int32} {ov db : Nat → Value}
theorem jq_cuts (G : jG hp q0 q1 q2 q3 fs) {q r a b : Nat} {u v : Int} (hq : q < 665) (hr : r < 665) (ha : a < 665) (hb : b < 665) (n1 : q ≠ r) (n2 : q ≠ a) (n3 : q ≠ b) (n4 : r ≠ a) (hu : jrs bg a u) (hv : jrs bg b v) (hv0 : v ≠ 0) :
    mj_Ok (D + 4) 191 [.ref q0, .int (jn q), .int (jn r), .int (jn a), .int (jn b)] (jZ hp q1 q2 q3 bg ov db) (fun z => ∃ (bg' : Nat → Int32) (ov' db' : Nat → Value), jrs bg' q (u.tdiv v) ∧ jrs bg' r (u.tmod v) ∧ (∀ s w, s ≠ q → s ≠ r → jrs bg s w → jrs bg' s w) ∧ z = (.inl none, jZ hp q1 q2 q3 bg' ov' db')) := by
  have ku := hu.2.2.2
  have kv := hv.2.2.2
  have hsu := jsg_range u
  have hsv := jsg_range v
  have hcr := jcm_range u.natAbs v.natAbs
  refine mj_Ok.of (M := mj_m191) rfl rfl rfl ?_
  iterate 3 refine mj_T.pl rfl rfl rfl rfl ?_
  refine mj_T.call (ins := .invokevirtual 71) rfl rfl (Nat.le_of_ble_eq_true rfl) (Nat.le_of_ble_eq_true rfl) (by simp [mj_recv, jX_a (jE_c (jG_e G _) _)]) rfl (jq_cmp (D := D) (jE_c (jG_e G _) _) ha hb hu hv) (fun v' h' hq' => ?_) (fun i h' hq' => by cases hq')
  cases hq'
  refine mj_T.if0 rfl ⟨by omega, by omega⟩ (fun hc => ?_) (fun hc => ?_)
  · simp only [jc, decide_eq_true_eq] at hc
    have hyx : v.natAbs ≤ u.natAbs := Decidable.byContradiction fun q => by
      rw [jcm_lt (show u.natAbs < v.natAbs by omega)] at hc
      omega
    have hnm : jnl v.natAbs ≤ jnl u.natAbs := jnl_mono hyx
    have hy0 : v.natAbs ≠ 0 := by omega
    have hn1 : 1 ≤ jnl v.natAbs := Nat.pos_of_ne_zero (fun e => hy0 (jnl_eq0.mp e))
    obtain ⟨f1, f2⟩ := jfa_pos v.natAbs
    have hV := jfa_nl (x := v.natAbs)
    have hnorm := jfa_norm (x := v.natAbs) (by omega)
    have hfd : (1000000000 : Int).tdiv (((jlb v.natAbs (jnl v.natAbs - 1) : Nat) : Int) + 1) = ((jfa v.natAbs : Nat) : Int) := by
      unfold jfa
      rw [if_neg hy0]
      rfl
    have hXV : u.natAbs * jfa v.natAbs / (v.natAbs * jfa v.natAbs) = u.natAbs / v.natAbs := Nat.mul_div_mul_right _ _ f1
    have hXR : u.natAbs * jfa v.natAbs % (v.natAbs * jfa v.natAbs) / jfa v.natAbs = u.natAbs % v.natAbs := by
      rw [Nat.mul_mod_mul_right, Nat.mul_div_cancel _ f1]
    have hlb := jlb_lt v.natAbs (jnl v.natAbs - 1)
    have hyB : jB ^ (jnl v.natAbs - 1) ≤ v.natAbs := Nat.le_of_not_lt fun h => by have := jnl_le_lt.mpr h; omega
    have hxB := jnl_le_lt.mp (Nat.le_refl (jnl u.natAbs))
    have hx2 : u.natAbs < v.natAbs * jB ^ (jnl u.natAbs - jnl v.natAbs + 1) := by
      refine Nat.lt_of_lt_of_le hxB (Nat.le_trans (Nat.le_of_eq ?_) (Nat.mul_le_mul_right _ hyB))
      rw [← Nat.pow_add]
      congr 1
      omega
    have hX1 : u.natAbs * jfa v.natAbs / jB ^ (jnl u.natAbs - jnl v.natAbs + 1) < v.natAbs * jfa v.natAbs := by
      rw [Nat.div_lt_iff_lt_mul (jB_pow _), Nat.mul_assoc, Nat.mul_comm (jfa v.natAbs), ← Nat.mul_assoc]
      exact Nat.mul_lt_mul_of_pos_right hx2 f1
    have hjy : jyk (u.natAbs * jfa v.natAbs) (v.natAbs * jfa v.natAbs) (jnl u.natAbs - jnl v.natAbs + 1) = u.natAbs * jfa v.natAbs := by
      unfold jyk
      rw [Nat.mod_eq_of_lt hX1, Nat.mul_comm (u.natAbs * jfa v.natAbs / _)]
      exact Nat.div_add_mod _ _
    have hqn : jnl (u.natAbs * jfa v.natAbs / (v.natAbs * jfa v.natAbs)) ≤ jnl u.natAbs - jnl v.natAbs + 1 := by
      rw [hXV]
      refine jnl_of ?_
      rw [Nat.div_lt_iff_lt_mul (by omega), Nat.mul_comm]
      exact hx2
    have hV0 : 0 < v.natAbs * jfa v.natAbs := Nat.mul_pos (by omega) f1
    have hRlt := Nat.mod_lt (u.natAbs * jfa v.natAbs) hV0
    have hRn : jnl (u.natAbs * jfa v.natAbs % (v.natAbs * jfa v.natAbs)) ≤ jnl v.natAbs := by
      rw [← hV]
      exact jnl_mono (Nat.le_of_lt hRlt)
    have hyf : jnl (v.natAbs) ≤ jnl v.natAbs := Nat.le_refl _
    generalize hM : jnl u.natAbs - jnl v.natAbs = m at *
    have hxm : jnl u.natAbs = jnl v.natAbs + m := by omega
    generalize hNN : jnl v.natAbs = n at *
    generalize hFF : jfa v.natAbs = f at *
    iterate 2 refine mj_T.pl rfl rfl rfl rfl ?_
    refine mj_T.call (ins := .invokevirtual 52) rfl rfl (Nat.le_of_ble_eq_true rfl) (Nat.le_of_ble_eq_true rfl) (by simp [mj_recv, jX_a (jE_c (jG_e G _) _)]) rfl (jq_length (D := D + 2) (jX_a (jE_c (jG_e G _) _)) G.1.1.2.1 (jX_b (jE_c (jG_e G _) _)) hb hv) (fun v' h' hq' => ?_) (fun i h' hq' => by cases hq')
    cases hq'
    rw [hNN]
    iterate 3 refine mj_T.pl rfl rfl rfl rfl ?_
    refine mj_T.call (ins := .invokevirtual 52) rfl rfl (Nat.le_of_ble_eq_true rfl) (Nat.le_of_ble_eq_true rfl) (by simp [mj_recv, jX_a (jE_c (jG_e G _) _)]) rfl (jq_length (D := D + 2) (jX_a (jE_c (jG_e G _) _)) G.1.1.2.1 (jX_b (jE_c (jG_e G _) _)) ha hu) (fun v' h' hq' => ?_) (fun i h' hq' => by cases hq')
    cases hq'
    refine mj_T.pl rfl rfl rfl rfl ?_
    refine mj_T.isub rfl ?_
    rw [show ((jnl u.natAbs : Nat) : Int) - (n : Int) = (m : Int) by omega]
    iterate 6 refine mj_T.pl rfl rfl rfl rfl ?_
    refine mj_T.isub (b := 1) rfl ?_
    rw [show (n : Int) - 1 = ((n - 1 : Nat) : Int) by omega]
    refine mj_T.call (ins := .invokevirtual 64) rfl rfl (Nat.le_of_ble_eq_true rfl) (Nat.le_of_ble_eq_true rfl) (by simp [mj_recv, jX_a (jE_c (jG_e G _) _)]) rfl (jq_limb (D := D + 1) (jX_a (jE_c (jG_e G _) _)) G.1.1.2.1 (jX_b (jE_c (jG_e G _) _)) hb (show n - 1 ≤ 700 by omega) hv) (fun v' h' hq' => ?_) (fun i h' hq' => by cases hq')
    cases hq'
    refine mj_T.pl rfl rfl rfl rfl ?_
    refine mj_T.iadd (b := 1) rfl ?_
    refine mj_T.idiv (a := 1000000000) rfl ⟨by omega, by omega⟩ ⟨by omega, by omega⟩ (by omega) ?_
    rw [hfd]
    iterate 2 refine mj_T.pl rfl rfl rfl rfl ?_
    refine mj_T.gb (jE_c (jG_e G _) _) rfl ?_
    iterate 2 refine mj_T.pl rfl rfl rfl rfl ?_
    refine mj_T.imul (b := 702) rfl ?_
    refine mj_T.pl rfl rfl rfl rfl ?_
    refine mj_T.iadd (b := 2) rfl ?_
    rw [show (a : Int) * 702 + 2 = ((a * 702 + 2 : Nat) : Int) by omega]
    refine mj_T.pl rfl rfl rfl rfl ?_
    refine mj_T.gov (jG_e G _) rfl ?_
    iterate 3 refine mj_T.pl rfl rfl rfl rfl ?_
    refine mj_T.iadd rfl ?_
    rw [show (n : Int) + (m : Int) = ((n + m : Nat) : Int) by omega]
    refine mj_T.prim rfl rfl (jX_cpo (jX_b (jE_c (jG_e G _) _)) (jY_o (jG_e G _)) (by omega) (by omega)) ?_
    rw [jY_set (jG_e G _)]
    refine mj_T.pl rfl rfl rfl rfl ?_
    refine mj_T.gb (jE_c (jG_e G _) _) rfl ?_
    iterate 2 refine mj_T.pl rfl rfl rfl rfl ?_
    refine mj_T.imul (b := 702) rfl ?_
    refine mj_T.pl rfl rfl rfl rfl ?_
    refine mj_T.iadd (b := 2) rfl ?_
    rw [show (b : Int) * 702 + 2 = ((b * 702 + 2 : Nat) : Int) by omega]
    refine mj_T.pl rfl rfl rfl rfl ?_
    refine mj_T.gby G rfl ?_
    iterate 2 refine mj_T.pl rfl rfl rfl rfl ?_
    refine mj_T.prim rfl rfl (jX_cpo (jX_b (jE_c (jG_e G _) _)) (jZ_y G) (by omega) (by omega)) ?_
    rw [jZ_set G]
    refine mj_T.pl rfl rfl rfl rfl ?_
    refine mj_T.gov (jG_e G _) rfl ?_
    iterate 2 refine mj_T.pl rfl rfl rfl rfl ?_
    refine mj_T.iadd rfl ?_
    rw [show (n : Int) + (m : Int) = ((n + m : Nat) : Int) by omega]
    refine mj_T.pl rfl rfl rfl rfl ?_
    refine mj_T.call (ins := .invokestatic 94) rfl rfl (Nat.le_of_ble_eq_true rfl) (Nat.le_of_ble_eq_true rfl) rfl rfl (jq_scales_o (D := D + 2) G (n := n + m) (x := u.natAbs) (fa := f) (by omega) (by omega) f1 f2 (fun j hj => ?_)) (fun v' h' hq' => ?_) (fun i h' hq' => by obtain ⟨_, _, h⟩ := hq'; cases h)
    · unfold va_cpy
      rw [if_pos (by omega), Nat.sub_zero]
      exact congrArg Value.int (hu.2.2.1 j (by omega))
    obtain ⟨ov1, o1, h⟩ := hq'
    cases h
    refine mj_T.pl rfl rfl rfl rfl ?_
    refine mj_T.gby G rfl ?_
    iterate 2 refine mj_T.pl rfl rfl rfl rfl ?_
    refine mj_T.call (ins := .invokestatic 94) rfl rfl (Nat.le_of_ble_eq_true rfl) (Nat.le_of_ble_eq_true rfl) rfl rfl (jq_scales_y (D := D + 2) G (n := n) (x := v.natAbs) (fa := f) (by omega) (by omega) f1 f2 (fun j hj => ?_)) (fun v' h' hq' => ?_) (fun i h' hq' => by obtain ⟨_, _, h⟩ := hq'; cases h)
    · unfold va_cpy
      rw [if_pos (by omega), Nat.sub_zero]
      exact congrArg Value.int (hv.2.2.1 j (by omega))
    obtain ⟨db1, y1, h⟩ := hq'
    cases h
    iterate 2 refine mj_T.pl rfl rfl rfl rfl ?_
    refine mj_T.eq (jq_cut_loop (D := D + 2) G (q := q) (r := r) (a := a) (b := b) (n := n) (m := m) (f := f) (X := u.natAbs * f) (V := v.natAbs * f) (bg0 := bg) hq hn1 (by omega) hV hnorm (fun j hj => y1 j (by omega)) (fun bg1 ov2 c1 c2 c3 => ?_) (m + 1) bg ov1 (Nat.le_refl _) (fun j hj => by rw [hjy]; exact o1 j hj) (fun j h1 h2 => by omega) (fun p _ => rfl)) rfl ?_ rfl rfl
    rotate_left
    · rw [show ((m + 1 : Nat) : Int) - 1 = (m : Int) by omega]; rfl
    have F1 : jrf bg bg1 q := fun j hj => c3 j (fun i hi => by omega)
    have ua1 := jrs_keep hu F1 (Ne.symm n2)
    have vb1 := jrs_keep hv F1 (Ne.symm n3)
    refine mj_T.pl rfl rfl rfl rfl ?_
    refine mj_T.gb (jE_c (jG_e G _) _) rfl ?_
    iterate 2 refine mj_T.pl rfl rfl rfl rfl ?_
    refine mj_T.imul (b := 702) rfl ?_
    rw [show (q : Int) * 702 = ((q * 702 : Nat) : Int) by omega]
    iterate 2 refine mj_T.pl rfl rfl rfl rfl ?_
    refine mj_T.call (ins := .invokevirtual 68) rfl rfl (Nat.le_of_ble_eq_true rfl) (Nat.le_of_ble_eq_true rfl) (by simp [mj_recv, jX_a (jE_c (jG_e G _) _)]) rfl (jq_sign (D := D + 2) (jX_a (jE_c (jG_e G _) _)) G.1.1.2.1 (jX_b (jE_c (jG_e G _) _)) ha ua1) (fun v' h' hq' => ?_) (fun i h' hq' => by cases hq')
    cases hq'
    iterate 2 refine mj_T.pl rfl rfl rfl rfl ?_
    refine mj_T.call (ins := .invokevirtual 68) rfl rfl (Nat.le_of_ble_eq_true rfl) (Nat.le_of_ble_eq_true rfl) (by simp [mj_recv, jX_a (jE_c (jG_e G _) _)]) rfl (jq_sign (D := D + 2) (jX_a (jE_c (jG_e G _) _)) G.1.1.2.1 (jX_b (jE_c (jG_e G _) _)) hb vb1) (fun v' h' hq' => ?_) (fun i h' hq' => by cases hq')
    cases hq'
    refine mj_T.imul rfl ?_
    refine mj_T.xst (jE_c (jG_e G _) _) rfl ⟨by omega, by omega⟩ ⟨by omega, by omega⟩ ?_
    iterate 4 refine mj_T.pl rfl rfl rfl rfl ?_
    refine mj_T.iadd (b := 1) rfl ?_
    rw [show (m : Int) + 1 = ((m + 1 : Nat) : Int) by omega]
    refine mj_T.call (ins := .invokevirtual 80) rfl rfl (Nat.le_of_ble_eq_true rfl) (Nat.le_of_ble_eq_true rfl) (by simp [mj_recv, jX_a (jE_c (jG_e G _) _)]) rfl (jq_trims (D := D + 2) (jE_c (jG_e G _) _) (bg := upd bg1 (q * 702) (jn (jsg u * jsg v))) (x := u.natAbs * f / (v.natAbs * f)) (g0 := jsg u * jsg v) (n := m + 1) hq (by omega) hqn (if_pos rfl) (fun j hj => ?_)) (fun v' h' hq' => ?_) (fun i h' hq' => by obtain ⟨_, _, _, _, _, h⟩ := hq'; cases h)
    · unfold upd
      rw [if_neg (by omega)]
      exact c2 j (by omega)
    obtain ⟨bg2, e1, e2, e3, e4, h⟩ := hq'
    cases h
    have F2 : jrf bg bg2 q := jrf_tr (jrf_up F1) e4
    have hqv : jrs bg2 q (u.tdiv v) := by
      rw [hXV] at e1 e2 e3 hqn
      refine jrs_of ?_ e1 e2 (fun j hj => e3 j (by omega)) (fun h0 => ?_) (by omega)
      · exact Int.natAbs_tdiv u v
      · rw [jsg_tdiv, if_neg]
        intro q0
        exact h0 (Int.natAbs_eq_zero.mp (by rw [Int.natAbs_tdiv]; exact q0))
    have ua2 := jrs_keep hu F2 (Ne.symm n2)
    iterate 4 refine mj_T.pl rfl rfl rfl rfl ?_
    refine mj_T.isub (b := 1) rfl ?_
    refine mj_T.pl rfl rfl rfl rfl ?_
    have hR0 : u.natAbs * f % (v.natAbs * f) / jB ^ n % f = 0 := by rw [jnl_le.mp hRn, Nat.zero_mod]
    generalize u.natAbs * f % (v.natAbs * f) = R at *
    refine mj_T.eq (jq_cut_rest (D := D + 3) G (q := q) (r := r) (a := a) (b := b) (n := n) (m := m) (f := f) (R := R) (bg0 := bg2) (ov := ov2) (db := db1) hr hn1 (by omega) f1 f2 hRn (fun j hj => c1 j (by omega)) (fun bg3 l8 l11 d1 d2 => ?_) n bg2 none (Nat.le_refl _) (fun j h1 h2 => absurd h1 (Nat.not_le.mpr h2)) (fun p _ => rfl)) rfl ?_ rfl rfl
    rotate_left
    · rw [hR0]; rfl
    rw [hXR] at d1
    have F3 : jrf bg2 bg3 r := fun j hj => d2 j (fun i hi => by omega)
    have ua3 := jrs_keep ua2 F3 (Ne.symm n4)
    refine mj_T.pl rfl rfl rfl rfl ?_
    refine mj_T.gb (jE_c (jG_e G _) _) rfl ?_
    iterate 2 refine mj_T.pl rfl rfl rfl rfl ?_
    refine mj_T.imul (b := 702) rfl ?_
    rw [show (r : Int) * 702 = ((r * 702 : Nat) : Int) by omega]
    iterate 2 refine mj_T.pl rfl rfl rfl rfl ?_
    refine mj_T.call (ins := .invokevirtual 68) rfl rfl (Nat.le_of_ble_eq_true rfl) (Nat.le_of_ble_eq_true rfl) (by simp [mj_recv, jX_a (jE_c (jG_e G _) _)]) rfl (jq_sign (D := D + 2) (jX_a (jE_c (jG_e G _) _)) G.1.1.2.1 (jX_b (jE_c (jG_e G _) _)) ha ua3) (fun v' h' hq' => ?_) (fun i h' hq' => by cases hq')
    cases hq'
    refine mj_T.xst (jE_c (jG_e G _) _) rfl ⟨by omega, by omega⟩ ⟨by omega, by omega⟩ ?_
    iterate 3 refine mj_T.pl rfl rfl rfl rfl ?_
    have hmn : jnl (u.natAbs % v.natAbs) ≤ n := by
      rw [← hNN]
      exact jnl_mono (Nat.le_of_lt (Nat.mod_lt _ (by omega)))
    refine mj_T.call (ins := .invokevirtual 80) rfl rfl (Nat.le_of_ble_eq_true rfl) (Nat.le_of_ble_eq_true rfl) (by simp [mj_recv, jX_a (jE_c (jG_e G _) _)]) rfl (jq_trims (D := D + 2) (jE_c (jG_e G _) _) (bg := upd bg3 (r * 702) (jn (jsg u))) (x := u.natAbs % v.natAbs) (g0 := jsg u) (n := n) hr (by omega) hmn (if_pos rfl) (fun j hj => ?_)) (fun v' h' hq' => ?_) (fun i h' hq' => by obtain ⟨_, _, _, _, _, h⟩ := hq'; cases h)
    · unfold upd
      rw [if_neg (by omega)]
      exact d1 j hj
    obtain ⟨bg4, g1, g2, g3, g4, h⟩ := hq'
    cases h
    have F4 : jrf bg2 bg4 r := jrf_tr (jrf_up F3) g4
    refine mj_T.ret rfl rfl rfl ⟨bg4, ov2, db1, jrs_keep hqv F4 n1, ?_, fun s w s1 s2 hw => jrs_keep (jrs_keep hw F2 s1) F4 s2, rfl⟩
    refine jrs_of ?_ g1 g2 (fun j hj => g3 j (by omega)) (fun h0 => ?_) (by omega)
    · exact Int.natAbs_tmod u v
    · rw [jsg_tmod, if_neg]
      intro q0
      exact h0 (Int.natAbs_eq_zero.mp (by rw [Int.natAbs_tmod]; exact q0))
  · simp only [jc, decide_eq_false_iff_not] at hc
    have hlt : u.natAbs < v.natAbs := Decidable.byContradiction fun q => by
      rcases Nat.lt_or_ge v.natAbs u.natAbs with q2 | q2
      · rw [jcm_gt q2] at hc; omega
      · rw [jcm_eq (by omega)] at hc; omega
    have e1 : u.tdiv v = 0 := Int.natAbs_eq_zero.mp (by rw [Int.natAbs_tdiv]; exact Nat.div_eq_of_lt hlt)
    have e2 : u.tmod v = u := by
      have := Int.tmod_add_mul_tdiv u v
      rw [e1, Int.mul_zero, Int.add_zero] at this
      exact this
    iterate 3 refine mj_T.pl rfl rfl rfl rfl ?_
    refine mj_T.call (ins := .invokevirtual 45) rfl rfl (Nat.le_of_ble_eq_true rfl) (Nat.le_of_ble_eq_true rfl) (by simp [mj_recv, jX_a (jE_c (jG_e G _) _)]) rfl (jq_sets (D := D + 2) (jE_c (jG_e G _) _) (s := q) (v := 0) hq ⟨by omega, by omega⟩) (fun v' h' hq' => ?_) (fun i h' hq' => by obtain ⟨_, _, _, h⟩ := hq'; cases h)
    obtain ⟨bg1, c1, c2, h⟩ := hq'
    cases h
    iterate 3 refine mj_T.pl rfl rfl rfl rfl ?_
    refine mj_T.call (ins := .invokevirtual 84) rfl rfl (Nat.le_of_ble_eq_true rfl) (Nat.le_of_ble_eq_true rfl) (by simp [mj_recv, jX_a (jE_c (jG_e G _) _)]) rfl (jq_copies (D := D + 1) (jE_c (jG_e G _) _) hr ha (jrs_keep hu c2 (Ne.symm n2))) (fun v' h' hq' => ?_) (fun i h' hq' => by obtain ⟨_, _, _, h⟩ := hq'; cases h)
    obtain ⟨bg2, d1, d2, h⟩ := hq'
    cases h
    refine mj_T.ret rfl rfl rfl ⟨bg2, ov, db, ?_, ?_, fun s w s1 s2 hw => jrs_keep (jrs_keep hw c2 s1) d2 s2, rfl⟩
    · rw [e1]
      exact jrs_keep c1 d2 n1
    · rw [e2]
      exact d1
end JXQ
/-! Of the reference and of numbers (as in p1, part 78x). -/
section MGF
variable {D pc : Nat} {M : mj_M} {loc : mj_L} {st : List Value} {h : mj_H} {Q : mj_R → Prop} {n ci f a r3 r4 r5 : Nat}
/-- a field is read -/
theorem mj_T.gfl {fs : List Value} {v : Value} (hc : M.2.2.2.2.1 pc = some (.getfield n, ci, f, r3, r4, r5)) (ha : h[a]? = some (.inr (ci, fs))) (hf : fs[f]? = some v) (k : mj_T D M (pc + 3) loc (v :: st) h Q) : mj_T D M pc loc (.ref a :: st) h Q :=
  mj_T.step hc rfl (by simp only [mj_step, ha, hf, if_true]) k
end MGF
/-! Of the reference and of numbers (as in p1, part 78z). -/
theorem jsg_tdivd {u g : Int} (hg : 0 < g) (h : g ∣ u) : jsg (u.tdiv g) = jsg u := by
  obtain ⟨k, rfl⟩ := h
  rw [Int.mul_tdiv_cancel_left _ (by omega)]
  rcases Int.lt_trichotomy k 0 with q | q | q
  · rw [jsg_neg q, jsg_neg (Int.mul_neg_of_pos_of_neg hg q)]
  · subst q; rw [Int.mul_zero]
  · rw [jsg_pos q, jsg_pos (Int.mul_pos hg q)]
/-- but for these slots all is as it was -/
def jfr (bg bg' : Nat → Int32) (l : List Nat) : Prop := ∀ s w, s ∉ l → jrs bg s w → jrs bg' s w
theorem jfr_rf {bg bg' : Nat → Int32} {s : Nat} {l : List Nat} (h : jrf bg bg' s) (hl : s ∈ l) : jfr bg bg' l := fun x w hx hw => jrs_keep hw h (fun e => hx (by rw [e]; exact hl))
theorem jfr_tr {bg b1 b2 : Nat → Int32} {l : List Nat} (h1 : jfr bg b1 l) (h2 : jfr b1 b2 l) : jfr bg b2 l := fun x w hx hw => h2 x w hx (h1 x w hx hw)
theorem jfr_up {bg b1 : Nat → Int32} {l l2 : List Nat} (h1 : jfr bg b1 l) (h2 : ∀ x, x ∈ l → x ∈ l2) : jfr bg b1 l2 := fun x w hx hw => h1 x w (fun q => hx (h2 x q)) hw
section JXT
variable {D : Nat} {hp : mj_H} {q0 q1 q2 q3 : Nat} {fs : List Value} {bg : Nat → Int32} {ov db : Nat → Value}
theorem jq_signZ (G : jG hp q0 q1 q2 q3 fs) {i : Nat} {v : Int} (hi : i < 665) (hv : jrs bg i v) : mj_Ok (D + 1) 178 [.ref q0, .int (jn (i : Nat))] (jZ hp q1 q2 q3 bg ov db) (fun r => r = (.inl (some (.int (jn (jsg v)))), jZ hp q1 q2 q3 bg ov db)) :=
  jq_sign (jX_a (jE_c (jG_e G _) _)) G.1.1.2.1 (jX_b (jE_c (jG_e G _) _)) hi hv
theorem jq_commons_loop (G : jG hp q0 q1 q2 q3 fs) {i j : Nat} {u0 v0 : Int} {bg0 : Nat → Int32} {Q : mj_R → Prop}
    (hend : ∀ (bg : Nat → Int32) (ov db : Nat → Value) (g : Int), jrs bg 663 g → g ∣ u0 → g ∣ v0 → jfr bg0 bg [653, 655, 663, 664] → mj_T (D + 4) mj_m193 61 [some (.ref q0), some (.int (jn (653 : Nat))), some (.int (jn (i : Nat))), some (.int (jn (j : Nat)))] [] (jZ hp q1 q2 q3 bg ov db) Q) :
    ∀ (N : Nat) (u v : Int) (bg : Nat → Int32) (ov db : Nat → Value), v.natAbs ≤ N → jrs bg 663 u → jrs bg 664 v → (∀ k : Int, k ∣ u → k ∣ v → k ∣ u0 ∧ k ∣ v0) → jfr bg0 bg [653, 655, 663, 664] → mj_T (D + 4) mj_m193 16 [some (.ref q0), some (.int (jn (653 : Nat))), some (.int (jn (i : Nat))), some (.int (jn (j : Nat)))] [] (jZ hp q1 q2 q3 bg ov db) Q := by
  intro N
  induction N with
  | zero =>
    intro u v bg ov db hN hu hv hk hf
    have hv0 : v = 0 := by omega
    subst hv0
    iterate 2 refine mj_T.pl rfl rfl rfl rfl ?_
    refine mj_T.call (ins := .invokevirtual 68) rfl rfl (Nat.le_of_ble_eq_true rfl) (Nat.le_of_ble_eq_true rfl) (by simp [mj_recv, jX_a (jE_c (jG_e G _) _)]) rfl (jq_signZ (D := D + 3) G (i := 664) (by decide) hv) (fun v' h' hq' => ?_) (fun i h' hq' => by cases hq')
    cases hq'
    refine mj_T.if0 rfl ⟨by decide, by decide⟩ (fun hc => ?_) (fun hc => by cases hc)
    exact hend bg ov db u hu (hk u (Int.dvd_refl u) (Int.dvd_zero u)).1 (hk u (Int.dvd_refl u) (Int.dvd_zero u)).2 hf
  | succ N ih =>
    intro u v bg ov db hN hu hv hk hf
    iterate 2 refine mj_T.pl rfl rfl rfl rfl ?_
    refine mj_T.call (ins := .invokevirtual 68) rfl rfl (Nat.le_of_ble_eq_true rfl) (Nat.le_of_ble_eq_true rfl) (by simp [mj_recv, jX_a (jE_c (jG_e G _) _)]) rfl (jq_signZ (D := D + 3) G (i := 664) (by decide) hv) (fun v' h' hq' => ?_) (fun i h' hq' => by cases hq')
    cases hq'
    have hsg := jsg_range v
    refine mj_T.if0 rfl ⟨by omega, by omega⟩ (fun hc => ?_) (fun hc => ?_)
    · simp only [jc, decide_eq_true_eq] at hc
      have hv0 : v = 0 := by
        rcases Int.lt_trichotomy v 0 with q | q | q
        · rw [jsg_neg q] at hc; omega
        · exact q
        · rw [jsg_pos q] at hc; omega
      subst hv0
      exact hend bg ov db u hu (hk u (Int.dvd_refl u) (Int.dvd_zero u)).1 (hk u (Int.dvd_refl u) (Int.dvd_zero u)).2 hf
    · simp only [jc, decide_eq_false_iff_not] at hc
      have hv0 : v ≠ 0 := fun q => hc (by rw [q]; rfl)
      iterate 5 refine mj_T.pl rfl rfl rfl rfl ?_
      refine mj_T.call (ins := .invokevirtual 101) rfl rfl (Nat.le_of_ble_eq_true rfl) (Nat.le_of_ble_eq_true rfl) (by simp [mj_recv, jX_a (jE_c (jG_e G _) _)]) rfl (jq_cuts (D := D) G (q := 655) (r := 653) (a := 663) (b := 664) (by decide) (by decide) (by decide) (by decide) (by decide) (by decide) (by decide) (by decide) hu hv hv0) (fun v' h' hq' => ?_) (fun i h' hq' => by obtain ⟨_, _, _, _, _, _, h⟩ := hq'; cases h)
      obtain ⟨b1, o1, d1, k1, k2, k3, hq'⟩ := hq'
      cases hq'
      iterate 3 refine mj_T.pl rfl rfl rfl rfl ?_
      refine mj_T.call (ins := .invokevirtual 84) rfl rfl (Nat.le_of_ble_eq_true rfl) (Nat.le_of_ble_eq_true rfl) (by simp [mj_recv, jX_a (jE_c (jG_e G _) _)]) rfl (jq_copies (D := D + 2) (jE_c (jG_e G _) _) (to := 663) (s := 664) (by decide) (by decide) (k3 664 v (by decide) (by decide) hv)) (fun v' h' hq' => ?_) (fun i h' hq' => by obtain ⟨_, _, _, h⟩ := hq'; cases h)
      obtain ⟨b2, c1, c2, hq'⟩ := hq'
      cases hq'
      iterate 3 refine mj_T.pl rfl rfl rfl rfl ?_
      refine mj_T.call (ins := .invokevirtual 84) rfl rfl (Nat.le_of_ble_eq_true rfl) (Nat.le_of_ble_eq_true rfl) (by simp [mj_recv, jX_a (jE_c (jG_e G _) _)]) rfl (jq_copies (D := D + 2) (jE_c (jG_e G _) _) (to := 664) (s := 653) (by decide) (by decide) (jrs_keep k2 c2 (by decide))) (fun v' h' hq' => ?_) (fun i h' hq' => by obtain ⟨_, _, _, h⟩ := hq'; cases h)
      obtain ⟨b3, e1, e2, hq'⟩ := hq'
      cases hq'
      refine mj_T.pl rfl rfl rfl rfl ?_
      have hlt : (u.tmod v).natAbs < v.natAbs := by
        rw [Int.natAbs_tmod]
        exact Nat.mod_lt _ (by omega)
      refine ih v (u.tmod v) b3 o1 d1 (by omega) (jrs_keep c1 e2 (by decide)) e1 (fun k h1 h2 => hk k ?_ h1) (jfr_tr hf (jfr_tr (fun s w hs hw => k3 s w (fun e => hs (by rw [e]; decide)) (fun e => hs (by rw [e]; decide)) hw) (jfr_tr (jfr_rf c2 (by decide)) (jfr_rf e2 (by decide)))))
      have h3 := Int.tmod_add_mul_tdiv u v
      rw [← h3]
      exact Int.dvd_add h2 (Int.dvd_trans h1 (Int.dvd_mul_right _ _))
theorem jrs_abs {bg : Nat → Int32} {s : Nat} {g : Int} (h : jrs bg s g) : jrs (upd bg (s * 702) (jn (if g = 0 then 0 else 1))) s (g.natAbs : Int) := by
  obtain ⟨h1, h2, h3, h4⟩ := h
  refine ⟨?_, ?_, fun j hj => ?_, ?_⟩
  · unfold upd
    rw [if_pos rfl]
    congr 1
    split
    · rename_i q; rw [q]; rfl
    · exact (jsg_pos (by omega)).symm
  · unfold upd
    rw [if_neg (by omega), Int.natAbs_natCast]
    exact h2
  · unfold upd
    rw [Int.natAbs_natCast] at hj ⊢
    rw [if_neg (by omega)]
    exact h3 j hj
  · rw [Int.natAbs_natCast]; exact h4
theorem jq_commons (G : jG hp q0 q1 q2 q3 fs) {i j : Nat} {u v : Int} (hi : i < 665) (hj : j < 665) (hj2 : j ≠ 663) (hu : jrs bg i u) (hv : jrs bg j v) :
    mj_Ok (D + 5) 193 [.ref q0, .int (jn (653 : Nat)), .int (jn (i : Nat)), .int (jn (j : Nat))] (jZ hp q1 q2 q3 bg ov db) (fun z => ∃ (bg' : Nat → Int32) (ov' db' : Nat → Value) (g : Int), 0 ≤ g ∧ g ∣ u ∧ g ∣ v ∧ jrs bg' 653 g ∧ jfr bg bg' [653, 655, 663, 664] ∧ z = (.inl none, jZ hp q1 q2 q3 bg' ov' db')) := by
  refine mj_Ok.of (M := mj_m193) rfl rfl rfl ?_
  iterate 3 refine mj_T.pl rfl rfl rfl rfl ?_
  refine mj_T.call (ins := .invokevirtual 84) rfl rfl (Nat.le_of_ble_eq_true rfl) (Nat.le_of_ble_eq_true rfl) (by simp [mj_recv, jX_a (jE_c (jG_e G _) _)]) rfl (jq_copies (D := D + 2) (jE_c (jG_e G _) _) (to := 663) (s := i) (by decide) hi hu) (fun v' h' hq' => ?_) (fun i h' hq' => by obtain ⟨_, _, _, h⟩ := hq'; cases h)
  obtain ⟨b1, c1, c2, hq'⟩ := hq'
  cases hq'
  iterate 3 refine mj_T.pl rfl rfl rfl rfl ?_
  refine mj_T.call (ins := .invokevirtual 84) rfl rfl (Nat.le_of_ble_eq_true rfl) (Nat.le_of_ble_eq_true rfl) (by simp [mj_recv, jX_a (jE_c (jG_e G _) _)]) rfl (jq_copies (D := D + 2) (jE_c (jG_e G _) _) (to := 664) (s := j) (by decide) hj (jrs_keep hv c2 hj2)) (fun v' h' hq' => ?_) (fun i h' hq' => by obtain ⟨_, _, _, h⟩ := hq'; cases h)
  obtain ⟨b2, e1, e2, hq'⟩ := hq'
  cases hq'
  refine jq_commons_loop (D := D) G (u0 := u) (v0 := v) (bg0 := bg) (fun b3 o3 d3 g k1 k2 k3 k4 => ?_) v.natAbs u v b2 ov db (Nat.le_refl _) (jrs_keep c1 e2 (by decide)) e1 (fun k h1 h2 => ⟨h1, h2⟩) (jfr_tr (jfr_rf c2 (by decide)) (jfr_rf e2 (by decide)))
  iterate 3 refine mj_T.pl rfl rfl rfl rfl ?_
  refine mj_T.call (ins := .invokevirtual 84) rfl rfl (Nat.le_of_ble_eq_true rfl) (Nat.le_of_ble_eq_true rfl) (by simp [mj_recv, jX_a (jE_c (jG_e G _) _)]) rfl (jq_copies (D := D + 2) (jE_c (jG_e G _) _) (to := 653) (s := 663) (by decide) (by decide) k1) (fun v' h' hq' => ?_) (fun i h' hq' => by obtain ⟨_, _, _, h⟩ := hq'; cases h)
  obtain ⟨b4, m1, m2, hq'⟩ := hq'
  cases hq'
  have hsg := jsg_range g
  refine mj_T.pl rfl rfl rfl rfl ?_
  refine mj_T.gb (jE_c (jG_e G _) _) rfl ?_
  iterate 2 refine mj_T.pl rfl rfl rfl rfl ?_
  refine mj_T.imul (a := ((653 : Nat) : Int)) (b := 702) rfl ?_
  iterate 2 refine mj_T.pl rfl rfl rfl rfl ?_
  refine mj_T.call (ins := .invokevirtual 68) rfl rfl (Nat.le_of_ble_eq_true rfl) (Nat.le_of_ble_eq_true rfl) (by simp [mj_recv, jX_a (jE_c (jG_e G _) _)]) rfl (jq_signZ (D := D + 3) G (i := 653) (by decide) m1) (fun v' h' hq' => ?_) (fun i h' hq' => by cases hq')
  cases hq'
  have fin : ∀ y : Int, y = (if g = 0 then 0 else 1) → mj_T (D + 4) mj_m193 91 [some (.ref q0), some (.int (jn (653 : Nat))), some (.int (jn (i : Nat))), some (.int (jn (j : Nat)))] [.int (jn y), .int (jn (((653 : Nat) : Int) * 702)), .ref q1] (jZ hp q1 q2 q3 b4 o3 d3) (fun z => ∃ (bg' : Nat → Int32) (ov' db' : Nat → Value) (g : Int), 0 ≤ g ∧ g ∣ u ∧ g ∣ v ∧ jrs bg' 653 g ∧ jfr bg bg' [653, 655, 663, 664] ∧ z = (.inl none, jZ hp q1 q2 q3 bg' ov' db')) := fun y hy => by
    subst hy
    refine mj_T.xst (jE_c (jG_e G _) _) rfl ⟨by decide, by decide⟩ ⟨by decide, by decide⟩ ?_
    refine mj_T.ret rfl rfl rfl ⟨_, o3, d3, (g.natAbs : Int), by omega, Int.natAbs_dvd.mpr k2, Int.natAbs_dvd.mpr k3, jrs_abs m1, jfr_tr k4 (jfr_tr (jfr_rf m2 (by decide)) (jfr_rf (s := 653) (fun x hx => ?_) (by decide))), rfl⟩
    unfold upd
    rw [if_neg]
    show ¬ x = 653 * 702
    omega
  refine mj_T.if0 rfl ⟨by omega, by omega⟩ (fun hc => ?_) (fun hc => ?_)
  · simp only [jc, Bool.not_eq_true', decide_eq_false_iff_not] at hc
    refine mj_T.pl rfl rfl rfl rfl ?_
    exact fin 1 (by rw [if_neg (fun q => hc (by rw [q]; rfl))])
  · simp only [jc, Bool.not_eq_false', decide_eq_true_eq] at hc
    iterate 2 refine mj_T.pl rfl rfl rfl rfl ?_
    refine fin 0 ?_
    rw [if_pos]
    rcases Int.lt_trichotomy g 0 with q | q | q
    · rw [jsg_neg q] at hc; omega
    · exact q
    · rw [jsg_pos q] at hc; omega
theorem jq_exact (G : jG hp q0 q1 q2 q3 fs) {i j : Nat} {u v : Int} (hi : i < 665) (hj : j < 665) (n1 : i ≠ 663) (n2 : i ≠ 664) (n3 : i ≠ j) (n4 : j ≠ 663) (hu : jrs bg i u) (hv : jrs bg j v) (hv0 : v ≠ 0) :
    mj_Ok (D + 5) 194 [.ref q0, .int (jn (i : Nat)), .int (jn (j : Nat))] (jZ hp q1 q2 q3 bg ov db) (fun z => ∃ (bg' : Nat → Int32) (ov' db' : Nat → Value), jrs bg' i (u.tdiv v) ∧ jfr bg bg' [i, 663, 664] ∧ z = (.inl none, jZ hp q1 q2 q3 bg' ov' db')) := by
  refine mj_Ok.of (M := mj_m194) rfl rfl rfl ?_
  iterate 3 refine mj_T.pl rfl rfl rfl rfl ?_
  refine mj_T.call (ins := .invokevirtual 84) rfl rfl (Nat.le_of_ble_eq_true rfl) (Nat.le_of_ble_eq_true rfl) (by simp [mj_recv, jX_a (jE_c (jG_e G _) _)]) rfl (jq_copies (D := D + 2) (jE_c (jG_e G _) _) (to := 663) (s := i) (by decide) hi hu) (fun v' h' hq' => ?_) (fun i h' hq' => by obtain ⟨_, _, _, h⟩ := hq'; cases h)
  obtain ⟨b1, c1, c2, hq'⟩ := hq'
  cases hq'
  iterate 5 refine mj_T.pl rfl rfl rfl rfl ?_
  refine mj_T.call (ins := .invokevirtual 101) rfl rfl (Nat.le_of_ble_eq_true rfl) (Nat.le_of_ble_eq_true rfl) (by simp [mj_recv, jX_a (jE_c (jG_e G _) _)]) rfl (jq_cuts (D := D) G (q := i) (r := 664) (a := 663) (b := j) hi (by decide) (by decide) hj n2 n1 n3 (by decide) c1 (jrs_keep hv c2 n4) hv0) (fun v' h' hq' => ?_) (fun i h' hq' => by obtain ⟨_, _, _, _, _, _, h⟩ := hq'; cases h)
  obtain ⟨b2, o2, d2, k1, k2, k3, hq'⟩ := hq'
  cases hq'
  exact mj_T.ret rfl rfl rfl ⟨b2, o2, d2, k1, jfr_tr (jfr_rf c2 (by simp)) (fun s w hs hw => k3 s w (fun e => hs (by simp [e])) (fun e => hs (by simp [e])) hw), rfl⟩
theorem jq_tells (G : jG hp q0 q1 q2 q3 fs) {i j : Nat} {u v : Int} (hi : 656 ≤ i ∧ i ≤ 660) (hj : 656 ≤ j ∧ j ≤ 660) (hu : jrs bg i u) (hv : jrs bg j v) (hv0 : v ≠ 0) :
    mj_Ok (D + 6) 221 [.ref q0, .int (jn (i : Nat)), .int (jn (j : Nat))] (jZ hp q1 q2 q3 bg ov db) (fun z => ∃ (bg' : Nat → Int32) (ov' db' : Nat → Value), z = (.inl (some (.int (jn (jsg u)))), jZ hp q1 q2 q3 bg' ov' db')) := by
  refine mj_Ok.of (M := mj_m221) rfl rfl rfl ?_
  iterate 4 refine mj_T.pl rfl rfl rfl rfl ?_
  refine mj_T.call (ins := .invokevirtual 127) rfl rfl (Nat.le_of_ble_eq_true rfl) (Nat.le_of_ble_eq_true rfl) (by simp [mj_recv, jX_a (jE_c (jG_e G _) _)]) rfl (jq_commons (D := D) G (i := i) (j := j) (by omega) (by omega) (by omega) hu hv) (fun v' h' hq' => ?_) (fun i h' hq' => by obtain ⟨_, _, _, _, _, _, _, _, _, h⟩ := hq'; cases h)
  obtain ⟨b1, o1, d1, g, g0, g1, g2, g3, g4, hq'⟩ := hq'
  cases hq'
  have nm : ∀ x, 656 ≤ x ∧ x ≤ 660 → x ∉ [653, 655, 663, 664] := fun x hx q => by
    simp only [List.mem_cons, List.not_mem_nil, or_false] at q
    omega
  have gp : 0 < g := by
    rcases Int.lt_or_eq_of_le g0 with q | q
    · exact q
    · subst q
      exact absurd (Int.zero_dvd.mp g2) hv0
  iterate 3 refine mj_T.pl rfl rfl rfl rfl ?_
  refine mj_T.call (ins := .invokevirtual 84) rfl rfl (Nat.le_of_ble_eq_true rfl) (Nat.le_of_ble_eq_true rfl) (by simp [mj_recv, jX_a (jE_c (jG_e G _) _)]) rfl (jq_copies (D := D + 3) (jE_c (jG_e G _) _) (to := 650) (s := i) (by decide) (by omega) (g4 i u (nm i hi) hu)) (fun v' h' hq' => ?_) (fun i h' hq' => by obtain ⟨_, _, _, h⟩ := hq'; cases h)
  obtain ⟨b2, c1, c2, hq'⟩ := hq'
  cases hq'
  iterate 3 refine mj_T.pl rfl rfl rfl rfl ?_
  refine mj_T.call (ins := .invokevirtual 84) rfl rfl (Nat.le_of_ble_eq_true rfl) (Nat.le_of_ble_eq_true rfl) (by simp [mj_recv, jX_a (jE_c (jG_e G _) _)]) rfl (jq_copies (D := D + 3) (jE_c (jG_e G _) _) (to := 651) (s := j) (by decide) (by omega) (jrs_keep (g4 j v (nm j hj) hv) c2 (by omega))) (fun v' h' hq' => ?_) (fun i h' hq' => by obtain ⟨_, _, _, h⟩ := hq'; cases h)
  obtain ⟨b3, e1, e2, hq'⟩ := hq'
  cases hq'
  have s650 := jrs_keep c1 e2 (by decide)
  have s653 := jrs_keep (jrs_keep g3 c2 (by decide)) e2 (by decide)
  -- from the second division on
  have fin : ∀ (b4 : Nat → Int32) (o4 d4 : Nat → Value) (w : Int), jsg w = jsg u → jrs b4 650 w → jrs b4 651 v → jrs b4 653 g → mj_T (D + 5) mj_m221 45 [some (.ref q0), some (.int (jn (i : Nat))), some (.int (jn (j : Nat)))] [] (jZ hp q1 q2 q3 b4 o4 d4) (fun z => ∃ (bg' : Nat → Int32) (ov' db' : Nat → Value), z = (.inl (some (.int (jn (jsg u)))), jZ hp q1 q2 q3 bg' ov' db')) := fun b4 o4 d4 w hw t1 t2 t3 => by
    iterate 3 refine mj_T.pl rfl rfl rfl rfl ?_
    refine mj_T.call (ins := .invokevirtual 133) rfl rfl (Nat.le_of_ble_eq_true rfl) (Nat.le_of_ble_eq_true rfl) (by simp [mj_recv, jX_a (jE_c (jG_e G _) _)]) rfl (jq_exact (D := D) G (i := 651) (j := 653) (by decide) (by decide) (by decide) (by decide) (by decide) (by decide) t2 t3 (by omega)) (fun v' h' hq' => ?_) (fun i h' hq' => by obtain ⟨_, _, _, _, _, h⟩ := hq'; cases h)
    obtain ⟨b5, o5, d5, k1, k2, hq'⟩ := hq'
    cases hq'
    iterate 2 refine mj_T.pl rfl rfl rfl rfl ?_
    refine mj_T.call (ins := .invokevirtual 68) rfl rfl (Nat.le_of_ble_eq_true rfl) (Nat.le_of_ble_eq_true rfl) (by simp [mj_recv, jX_a (jE_c (jG_e G _) _)]) rfl (jq_signZ (D := D + 4) G (i := 650) (by decide) (k2 650 w (by decide) t1)) (fun v' h' hq' => ?_) (fun i h' hq' => by cases hq')
    cases hq'
    rw [hw]
    exact mj_T.ret rfl rfl rfl ⟨b5, o5, d5, rfl⟩
  have hsg := jsg_range u
  iterate 2 refine mj_T.pl rfl rfl rfl rfl ?_
  refine mj_T.call (ins := .invokevirtual 68) rfl rfl (Nat.le_of_ble_eq_true rfl) (Nat.le_of_ble_eq_true rfl) (by simp [mj_recv, jX_a (jE_c (jG_e G _) _)]) rfl (jq_signZ (D := D + 4) G (i := 650) (by decide) s650) (fun v' h' hq' => ?_) (fun i h' hq' => by cases hq')
  cases hq'
  refine mj_T.if0 rfl ⟨by omega, by omega⟩ (fun hc => ?_) (fun hc => ?_)
  · exact fin b3 o1 d1 u rfl s650 e1 s653
  · iterate 3 refine mj_T.pl rfl rfl rfl rfl ?_
    refine mj_T.call (ins := .invokevirtual 133) rfl rfl (Nat.le_of_ble_eq_true rfl) (Nat.le_of_ble_eq_true rfl) (by simp [mj_recv, jX_a (jE_c (jG_e G _) _)]) rfl (jq_exact (D := D) G (i := 650) (j := 653) (by decide) (by decide) (by decide) (by decide) (by decide) (by decide) s650 s653 (by omega)) (fun v' h' hq' => ?_) (fun i h' hq' => by obtain ⟨_, _, _, _, _, h⟩ := hq'; cases h)
    obtain ⟨b5, o5, d5, k1, k2, hq'⟩ := hq'
    cases hq'
    exact fin b5 o5 d5 (u.tdiv g) (jsg_tdivd gp g1) k1 (k2 651 v (by decide) e1) (k2 653 g (by decide) s653)
end JXT
