/-! Wide: setProduct. -/
/-- the heap of three Wides -/
abbrev jH3 (n m1 m2 : Nat) (s s1 s2 : Int) (g0 : Int32) (t1 t2 : Int) (g q1 q2 : Nat → Int32) : mj_H := [.inr (8, [.ref 1, .int (jn s), .int g0]), .inl (0, n, fun j => .int (g j)), .inr (8, [.ref 3, .int (jn s1), .int (jn t1)]), .inl (0, m1, fun j => .int (q1 j)), .inr (8, [.ref 5, .int (jn s2), .int (jn t2)]), .inl (0, m2, fun j => .int (q2 j))]
abbrev jL3 (la lb cols : Int) (carry : Int) (k : Int) (l : List (Option Value)) : mj_L := some (.ref 0) :: some (.ref 2) :: some (.ref 4) :: some (.int (jn la)) :: some (.int (jn lb)) :: some (.int (jn cols)) :: some (.long (jl carry)) :: none :: some (.int (jn k)) :: l
theorem jw_prod_in {D n m1 m2 a b k : Nat} {s : Int} {g0 : Int32} {t1 t2 : Int} {g q1 q2 : Nat → Int32} (hn : n ≤ 1000) (hm1 : m1 ≤ 1000) (hm2 : m2 ≤ 1000) (ha : jnl a ≤ m1) (hb : jnl b ≤ m2) (hq1 : ∀ j, j < jnl a → q1 j = jn (jlb a j)) (hq2 : ∀ j, j < jnl b → q2 j = jn (jlb b j)) {cols : Nat} (hk : k < cols) (hcols : cols ≤ n) {last : Int} (hlast : last = min (k : Int) (jnl a - 1)) {Q : mj_R → Prop}
    (hend : ∀ (low cnt i : Nat), low + cnt * 8000000000000000000 = jcc a b k + jco a b k → cnt ≤ 1000 → low < 8000000000000000000 → mj_T D mj_m95 152 (jL3 (jnl a) (jnl b) cols (jcc a b k) k [some (.long (jl low)), none, some (.long (jl (cnt * 8000000000))), none, some (.int (jn last)), some (.int (jn i))]) [] (jH3 n m1 m2 s (jnl a) (jnl b) g0 t1 t2 g q1 q2) Q) :
    ∀ (d i low cnt : Nat), (d : Int) = last + 1 - i → (k + 1 ≤ i + jnl b) → i ≤ k + 1 → low + cnt * 8000000000000000000 = jcc a b k + jsm (fun i => jlb a i * jlb b (k - i)) i → cnt ≤ i → low < 8000000000000000000 →
      mj_T D mj_m95 89 (jL3 (jnl a) (jnl b) cols (jcc a b k) k [some (.long (jl low)), none, some (.long (jl (cnt * 8000000000))), none, some (.int (jn last)), some (.int (jn i))]) [] (jH3 n m1 m2 s (jnl a) (jnl b) g0 t1 t2 g q1 q2) Q := by
  intro d
  induction d with
  | zero =>
    intro i low cnt hd hib hik hlow hcnt hl8
    iterate 2 refine mj_T.pl rfl rfl rfl rfl ?_
    refine mj_T.icmp rfl ⟨by omega, by omega⟩ ⟨by omega, by omega⟩ (fun hc93 => ?_) (fun hc93 => ?_)
    · refine hend low cnt i ?_ (by omega) hl8
      rw [hlow]
      congr 1
      unfold jco
      symm
      refine jsm_flat' hik (fun j h1 h2 => ?_)
      rw [jlb_high (show jnl a ≤ j by omega), Nat.zero_mul]
    · simp only [jc, decide_eq_false_iff_not] at hc93; omega
  | succ d ih =>
    intro i low cnt hd hib hik hlow hcnt hl8
    have hp := jmul_le a b i (k - i)
    have hsm : jsm (fun i => jlb a i * jlb b (k - i)) (i + 1) = jsm (fun i => jlb a i * jlb b (k - i)) i + jlb a i * jlb b (k - i) := rfl
    have hx1 := jlb_lt a i
    have hy1 := jlb_lt b (k - i)
    generalize hS : jsm (fun i => jlb a i * jlb b (k - i)) i = S at *
    iterate 2 refine mj_T.pl rfl rfl rfl rfl ?_
    refine mj_T.icmp rfl ⟨by omega, by omega⟩ ⟨by omega, by omega⟩ (fun hc93 => ?_) (fun hc93 => ?_)
    · simp only [jc, decide_eq_true_eq] at hc93; omega
    · iterate 4 refine mj_T.pl rfl rfl rfl rfl ?_
      refine mj_T.ialv rfl rfl ⟨by omega, by omega⟩ ⟨by omega, by omega⟩ (hq1 i (by omega)) ?_
      refine mj_T.i2l rfl ⟨by omega, by omega⟩ ?_
      iterate 4 refine mj_T.pl rfl rfl rfl rfl ?_
      refine mj_T.isub rfl ?_
      rw [show (k : Int) - (i : Int) = ((k - i : Nat) : Int) by omega]
      refine mj_T.ialv rfl rfl ⟨by omega, by omega⟩ ⟨by omega, by omega⟩ (hq2 (k - i) (by omega)) ?_
      refine mj_T.i2l rfl ⟨by omega, by omega⟩ ?_
      refine mj_T.lmul rfl ?_
      refine mj_T.ladd rfl ?_
      rw [show (low : Int) + ((jlb a i : Nat) : Int) * ((jlb b (k - i) : Nat) : Int) = ((low + jlb a i * jlb b (k - i) : Nat) : Int) by rw [Int.natCast_add, Int.natCast_mul]]
      generalize hpp : jlb a i * jlb b (k - i) = p at *
      iterate 3 refine mj_T.pl rfl rfl rfl rfl ?_
      refine mj_T.lif (b := 8000000000000000000) rfl rfl ⟨by omega, by omega⟩ ⟨by omega, by omega⟩ (fun hc126 => ?_) (fun hc126 => ?_)
      · simp only [jc, decide_eq_true_eq] at hc126
        refine mj_T.iinc (a := i) rfl rfl ?_
        refine mj_T.pl rfl rfl rfl rfl ?_
        exact ih (i + 1) (low + p) cnt (by omega) (by omega) (by omega) (by omega) (by omega) (by omega)
      · simp only [jc, decide_eq_false_iff_not] at hc126
        iterate 2 refine mj_T.pl rfl rfl rfl rfl ?_
        refine mj_T.lsub (b := 8000000000000000000) rfl ?_
        iterate 3 refine mj_T.pl rfl rfl rfl rfl ?_
        refine mj_T.ladd (b := 8000000000) rfl ?_
        iterate 1 refine mj_T.pl rfl rfl rfl rfl ?_
        refine mj_T.iinc (a := i) rfl rfl ?_
        refine mj_T.pl rfl rfl rfl rfl ?_
        rw [show ((low + p : Nat) : Int) - 8000000000000000000 = ((low + p - 8000000000000000000 : Nat) : Int) by omega, show (cnt : Int) * 8000000000 + 8000000000 = ((cnt + 1 : Nat) : Int) * 8000000000 by omega]
        exact ih (i + 1) (low + p - 8000000000000000000) (cnt + 1) (by omega) (by omega) (by omega) (by omega) (by omega) (by omega)
theorem jw_prod_out {D n m1 m2 a b : Nat} {g0 : Int32} {t1 t2 : Int} {g q1 q2 : Nat → Int32} (hn : n ≤ 1000) (hm1 : m1 ≤ 1000) (hm2 : m2 ≤ 1000) (ha : jnl a ≤ m1) (hb : jnl b ≤ m2) (hq1 : ∀ j, j < jnl a → q1 j = jn (jlb a j)) (hq2 : ∀ j, j < jnl b → q2 j = jn (jlb b j)) {cols : Nat} (hcols : cols ≤ n) (hab : cols ≤ jnl a + jnl b) {Q : mj_R → Prop}
    (hend : ∀ (gi : Nat → Int32) (l : List (Option Value)), l.length = 6 → (∀ j, j < cols → gi j = jn (jlb (a * b) j)) → mj_T D mj_m95 208 (jL3 (jnl a) (jnl b) cols (jcc a b cols) cols l) [] (jH3 n m1 m2 (jnl (a * b % jB ^ cols)) (jnl a) (jnl b) g0 t1 t2 gi q1 q2) Q) :
    ∀ (d k : Nat) (gi : Nat → Int32) (l9 l10 l11 l12 l13 l14 : Option Value), k + d = cols → (∀ j, j < k → gi j = jn (jlb (a * b) j)) →
      mj_T D mj_m95 52 (jL3 (jnl a) (jnl b) cols (jcc a b k) k [l9, l10, l11, l12, l13, l14]) [] (jH3 n m1 m2 (jnl (a * b % jB ^ k)) (jnl a) (jnl b) g0 t1 t2 gi q1 q2) Q := by
  intro d
  induction d with
  | zero =>
    intro k gi l9 l10 l11 l12 l13 l14 hd hgi
    iterate 2 refine mj_T.pl rfl rfl rfl rfl ?_
    refine mj_T.icmp rfl ⟨by omega, by omega⟩ ⟨by omega, by omega⟩ (fun hc56 => ?_) (fun hc56 => ?_)
    · have e : k = cols := by omega
      subst e
      exact hend gi [l9, l10, l11, l12, l13, l14] rfl hgi
    · simp only [jc, decide_eq_false_iff_not] at hc56; omega
  | succ d ih =>
    intro k gi l9 l10 l11 l12 l13 l14 hd hgi
    have hcc := jcc_le a b k
    have hlim := jcc_limb a b k
    have hnx := jcc_next a b k
    have hz1 := jlb_lt (a * b) k
    have hml := jnl_mod_le (a * b) k
    iterate 2 refine mj_T.pl rfl rfl rfl rfl ?_
    refine mj_T.icmp rfl ⟨by omega, by omega⟩ ⟨by omega, by omega⟩ (fun hc56 => ?_) (fun hc56 => ?_)
    · simp only [jc, decide_eq_true_eq] at hc56; omega
    · iterate 7 refine mj_T.pl rfl rfl rfl rfl ?_
      refine mj_T.isub (b := 1) rfl ?_
      refine mj_T.imin rfl rfl (Nat.le_of_ble_eq_true rfl) ⟨by omega, by omega⟩ ⟨by omega, by omega⟩ ?_
      iterate 4 refine mj_T.pl rfl rfl rfl rfl ?_
      refine mj_T.isub rfl ?_
      refine mj_T.pl rfl rfl rfl rfl ?_
      refine mj_T.iadd (b := 1) rfl ?_
      refine mj_T.imax (a := 0) rfl rfl (Nat.le_of_ble_eq_true rfl) ⟨by omega, by omega⟩ ⟨by omega, by omega⟩ ?_
      rw [show max 0 ((k : Int) - (jnl b : Nat) + 1) = ((k + 1 - jnl b : Nat) : Int) by omega]
      refine mj_T.pl rfl rfl rfl rfl ?_
      refine jw_prod_in (a := a) (b := b) (k := k) hn hm1 hm2 ha hb hq1 hq2 (by omega) hcols rfl (fun low cnt i hT hcnt hl8 => ?_) ((min (k : Int) (jnl a - 1) + 1 - (k + 1 - jnl b : Nat)).toNat) (k + 1 - jnl b) (jcc a b k) 0 ?_ (by omega) (by omega) ?_ (Nat.zero_le _) (by omega)
      · rw [← hT] at hlim hnx
        have hlim2 : jlb (a * b) k = low % 1000000000 := by
          rw [hlim]
          show (low + cnt * 8000000000000000000) % 1000000000 = _
          omega
        have hnx2 : jcc a b (k + 1) = cnt * 8000000000 + low / 1000000000 := by
          rw [hnx]
          show (low + cnt * 8000000000000000000) / 1000000000 = _
          omega
        have t4 : ∀ (gi' : Nat → Int32) (v : Value) (l9 l10 l11 l12 l13 l14 : Option Value), v = .int (jn (jnl (a * b % jB ^ (k + 1)))) → gi' = upd gi k (jn (jlb (a * b) k)) → mj_T D mj_m95 199 (jL3 (jnl a) (jnl b) cols (jcc a b (k + 1)) k [l9, l10, l11, l12, l13, l14]) [v, .ref 0] (jH3 n m1 m2 (jnl (a * b % jB ^ k)) (jnl a) (jnl b) g0 t1 t2 gi' q1 q2) Q := by
          intro gi' v l9 l10 l11 l12 l13 l14 hv hgi'
          subst hv
          subst hgi'
          refine mj_T.pl rfl rfl rfl rfl ?_
          refine mj_T.iinc (a := k) rfl rfl ?_
          refine mj_T.pl rfl rfl rfl rfl ?_
          refine ih (k + 1) (upd gi k (jn (jlb (a * b) k))) l9 l10 l11 l12 l13 l14 (by omega) (fun j hj => ?_)
          unfold upd
          split
          · rename_i h; rw [h]
          · exact hgi j (by omega)
        iterate 3 refine mj_T.pl rfl rfl rfl rfl ?_
        refine mj_T.ldiv (b := 1000000000) rfl ⟨by omega, by omega⟩ ⟨by omega, by omega⟩ (by omega) ?_
        refine mj_T.ladd rfl ?_
        rw [show (cnt : Int) * 8000000000 + (low : Int).tdiv 1000000000 = ((jcc a b (k + 1) : Nat) : Int) by rw [hnx2, Int.natCast_add, Int.natCast_mul]; rfl]
        iterate 6 refine mj_T.pl rfl rfl rfl rfl ?_
        refine mj_T.lrem (b := 1000000000) rfl ⟨by omega, by omega⟩ ⟨by omega, by omega⟩ (by omega) ?_
        rw [show (low : Int).tmod 1000000000 = ((jlb (a * b) k : Nat) : Int) by rw [hlim2]; rfl]
        refine mj_T.l2i rfl ?_
        refine mj_T.iast rfl rfl ⟨by omega, by omega⟩ ⟨by omega, by omega⟩ ?_
        iterate 4 refine mj_T.pl rfl rfl rfl rfl ?_
        refine mj_T.ialv (z := (jlb (a * b) k : Nat)) rfl rfl ⟨by omega, by omega⟩ ⟨by omega, by omega⟩ (if_pos rfl) ?_
        refine mj_T.if0 rfl ⟨by omega, by omega⟩ (fun hc185 => ?_) (fun hc185 => ?_)
        · simp only [jc, decide_eq_true_eq] at hc185
          iterate 2 refine mj_T.pl rfl rfl rfl rfl ?_
          exact t4 _ _ _ _ _ _ _ _ (by rw [jnl_mod_same (by omega)]) rfl
        · simp only [jc, decide_eq_false_iff_not] at hc185
          iterate 2 refine mj_T.pl rfl rfl rfl rfl ?_
          refine mj_T.iadd (b := 1) rfl ?_
          refine mj_T.pl rfl rfl rfl rfl ?_
          exact t4 _ _ _ _ _ _ _ _ (by rw [jnl_mod_top (by omega)]; rfl) rfl
      · omega
      · rw [Nat.zero_mul, Nat.add_zero]
        have := jsm_flat' (f := fun i => jlb a i * jlb b (k - i)) (Nat.zero_le (k + 1 - jnl b)) (fun i _ h => by
          show jlb a i * jlb b (k - i) = 0
          rw [jlb_high (show jnl b ≤ k - i by omega), Nat.mul_zero])
        rw [this]
        rfl
theorem jw_setProduct {D n m1 m2 : Nat} {u w : Int} {s0 g0 : Int32} {g q1 q2 : Nat → Int32} (hn : n ≤ 1000) (hm1 : m1 ≤ 1000) (hm2 : m2 ≤ 1000) (ha : jnl u.natAbs ≤ m1) (hb : jnl w.natAbs ≤ m2) (hcap : jnl (u * w).natAbs ≤ n) (hq1 : ∀ j, j < jnl u.natAbs → q1 j = jn (jlb u.natAbs j)) (hq2 : ∀ j, j < jnl w.natAbs → q2 j = jn (jlb w.natAbs j)) :
    mj_Ok (D + 1) 95 [.ref 0, .ref 2, .ref 4] [.inr (8, [.ref 1, .int s0, .int g0]), .inl (0, n, fun j => .int (g j)), .inr (8, [.ref 3, .int (jn (jnl u.natAbs)), .int (jn (jsg u))]), .inl (0, m1, fun j => .int (q1 j)), .inr (8, [.ref 5, .int (jn (jnl w.natAbs)), .int (jn (jsg w))]), .inl (0, m2, fun j => .int (q2 j))]
      (fun r => ∃ g' : Nat → Int32, (∀ j, j < jnl (u * w).natAbs → g' j = jn (jlb (u * w).natAbs j)) ∧ r = (.inl none, jH3 n m1 m2 (jnl (u * w).natAbs) (jnl u.natAbs) (jnl w.natAbs) (jn (jsg (u * w))) (jsg u) (jsg w) g' q1 q2)) := by
  have hsu := jsg_range u
  have hsw := jsg_range w
  have huw : (u * w).natAbs = u.natAbs * w.natAbs := Int.natAbs_mul u w
  have hnm := jnl_mul u.natAbs w.natAbs
  have hss : jsg u * jsg w = jsg (u * w) := by
    unfold jsg
    rcases Int.lt_trichotomy u 0 with h1 | h1 | h1 <;> rcases Int.lt_trichotomy w 0 with h2 | h2 | h2
    · rw [if_pos h1, if_pos h2, if_neg (Int.not_lt.mpr (Int.le_of_lt (Int.mul_pos_of_neg_of_neg h1 h2))), if_pos (Int.mul_pos_of_neg_of_neg h1 h2)]; rfl
    · subst h2; simp
    · rw [if_pos h1, if_neg (by omega), if_pos h2, if_pos (Int.mul_neg_of_neg_of_pos h1 h2)]; rfl
    · subst h1; simp
    · subst h1; simp
    · subst h1; simp
    · rw [if_neg (by omega), if_pos h1, if_pos h2, if_pos (Int.mul_neg_of_pos_of_neg h1 h2)]; rfl
    · subst h2; simp
    · rw [if_neg (by omega), if_pos h1, if_neg (by omega), if_pos h2, if_neg (Int.not_lt.mpr (Int.le_of_lt (Int.mul_pos h1 h2))), if_pos (Int.mul_pos h1 h2)]; rfl
  rw [huw] at hcap ⊢
  refine mj_Ok.of (M := mj_m95) rfl rfl rfl ?_
  iterate 4 refine mj_T.pl rfl rfl rfl rfl ?_
  refine mj_T.alen rfl rfl ?_
  refine mj_T.imin rfl rfl (Nat.le_of_ble_eq_true rfl) ⟨by omega, by omega⟩ ⟨by omega, by omega⟩ ?_
  rw [show min (jnl u.natAbs : Int) (m1 : Int) = (jnl u.natAbs : Nat) by omega]
  iterate 5 refine mj_T.pl rfl rfl rfl rfl ?_
  refine mj_T.alen rfl rfl ?_
  refine mj_T.imin rfl rfl (Nat.le_of_ble_eq_true rfl) ⟨by omega, by omega⟩ ⟨by omega, by omega⟩ ?_
  rw [show min (jnl w.natAbs : Int) (m2 : Int) = (jnl w.natAbs : Nat) by omega]
  iterate 3 refine mj_T.pl rfl rfl rfl rfl ?_
  refine mj_T.iadd rfl ?_
  iterate 2 refine mj_T.pl rfl rfl rfl rfl ?_
  refine mj_T.alen rfl rfl ?_
  refine mj_T.imin rfl rfl (Nat.le_of_ble_eq_true rfl) ⟨by omega, by omega⟩ ⟨by omega, by omega⟩ ?_
  rw [show min ((jnl u.natAbs : Int) + (jnl w.natAbs : Int)) (n : Int) = ((min (jnl u.natAbs + jnl w.natAbs) n : Nat) : Int) by omega]
  iterate 8 refine mj_T.pl rfl rfl rfl rfl ?_
  have hz : jnl (u.natAbs * w.natAbs) ≤ min (jnl u.natAbs + jnl w.natAbs) n := by omega
  refine mj_T.eq (jw_prod_out (a := u.natAbs) (b := w.natAbs) (g := g) (g0 := g0) (t1 := jsg u) (t2 := jsg w) (cols := min (jnl u.natAbs + jnl w.natAbs) n) hn hm1 hm2 ha hb hq1 hq2 (by omega) (by omega) (fun gi l hl hgi => ?_) _ 0 g none none none none none none (Nat.zero_add _) (fun j hj => by omega)) rfl ?_ rfl ?_
  · rw [jmod_full hz]
    iterate 3 refine mj_T.pl rfl rfl rfl rfl ?_
    refine mj_T.if0 rfl ⟨by omega, by omega⟩ (fun hc213 => ?_) (fun hc213 => ?_)
    · iterate 4 refine mj_T.pl rfl rfl rfl rfl ?_
      refine mj_T.imul rfl ?_
      rw [hss]
      refine mj_T.pl rfl rfl rfl rfl ?_
      exact mj_T.ret rfl rfl rfl ⟨gi, fun j hj => hgi j (by omega), rfl⟩
    · simp only [jc, Bool.not_eq_false', decide_eq_true_eq] at hc213
      have h0 : u * w = 0 := by have := jnl_eq0 (x := u.natAbs * w.natAbs); omega
      iterate 3 refine mj_T.pl rfl rfl rfl rfl ?_
      refine mj_T.ret rfl rfl rfl ⟨gi, fun j hj => hgi j (by omega), ?_⟩
      rw [h0]
      rfl
  · rw [jcc_zero]; rfl
  · rw [show u.natAbs * w.natAbs % jB ^ 0 = 0 by simp [Nat.mod_one], jnl_zero]
    rfl
