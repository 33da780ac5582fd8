/-! Adding by limbs. -/
def jcy (x y i : Nat) : Nat := (x % jB ^ i + y % jB ^ i) / jB ^ i
theorem jcy_le (x y i : Nat) : jcy x y i ≤ 1 := by
  unfold jcy
  have h := jB_pow i
  have h1 := Nat.mod_lt x h
  have h2 := Nat.mod_lt y h
  have : (x % jB ^ i + y % jB ^ i) / jB ^ i < 2 := by rw [Nat.div_lt_iff_lt_mul h]; omega
  omega
theorem jcy_zero (x y : Nat) : jcy x y 0 = 0 := by simp [jcy, Nat.mod_one]
theorem jcy_div (x y i : Nat) : (x + y) / jB ^ i = x / jB ^ i + y / jB ^ i + jcy x y i := by
  unfold jcy
  have h := jB_pow i
  have e : x + y = (x % jB ^ i + y % jB ^ i) + jB ^ i * (x / jB ^ i + y / jB ^ i) := by
    have h1 := Nat.div_add_mod x (jB ^ i)
    have h2 := Nat.div_add_mod y (jB ^ i)
    rw [Nat.mul_add]
    omega
  conv => lhs; rw [e]
  rw [Nat.add_mul_div_left _ _ h, Nat.add_comm]
theorem jcy_limb (x y i : Nat) : jlb (x + y) i = (jlb x i + jlb y i + jcy x y i) % jB := by
  unfold jlb
  rw [jcy_div, Nat.add_mod, Nat.add_mod (x / jB ^ i), Nat.add_mod (x / jB ^ i % jB + y / jB ^ i % jB)]
theorem jcy_next (x y i : Nat) : jcy x y (i + 1) = (jlb x i + jlb y i + jcy x y i) / jB := by
  unfold jcy
  have h := jB_pow i
  rw [jmod, jmod, Nat.pow_succ, ← Nat.div_div_eq_div_mul]
  congr 1
  rw [show jlb x i * jB ^ i + x % jB ^ i + (jlb y i * jB ^ i + y % jB ^ i) = (x % jB ^ i + y % jB ^ i) + jB ^ i * (jlb x i + jlb y i) by rw [Nat.mul_add, Nat.mul_comm (jB ^ i), Nat.mul_comm (jB ^ i)]; omega]
  rw [Nat.add_mul_div_left _ _ h]
  omega
theorem jcy_grow {x y i : Nat} (h : i < jnl x ∨ i < jnl y ∨ 0 < jcy x y i) : i < jnl (x + y) := by
  rw [jnl_lt, jcy_div]
  rcases h with h | h | h
  · exact Nat.ne_of_gt (Nat.lt_of_lt_of_le (Nat.pos_of_ne_zero (jnl_lt.mp h)) (by rw [Nat.add_assoc]; exact Nat.le_add_right _ _))
  · exact Nat.ne_of_gt (Nat.lt_of_lt_of_le (Nat.pos_of_ne_zero (jnl_lt.mp h)) (by rw [Nat.add_comm (x / _), Nat.add_assoc]; exact Nat.le_add_right _ _))
  · exact Nat.ne_of_gt (Nat.lt_of_lt_of_le h (Nat.le_add_left _ _))
theorem jcy_end {x y i : Nat} (h1 : jnl x ≤ i) (h2 : jnl y ≤ i) (h3 : jcy x y i = 0) : jnl (x + y) ≤ i := by
  rw [jnl_le, jcy_div, jnl_le.mp h1, jnl_le.mp h2, h3]
/-- an array's value at a place, known -/
theorem mj_T.ialv {D pc : Nat} {M : mj_M} {loc : mj_L} {st : List Value} {h : mj_H} {Q : mj_R → Prop} {r1 r2 r3 r4 r5 : Nat} {a n : Nat} {g : Nat → Int32} {i z : Int} (hc : M.2.2.2.2.1 pc = some (.iaload, r1, r2, r3, r4, r5)) (ha : h[a]? = some (.inl (0, n, fun j => .int (g j)))) (hi : jr i) (h0 : 0 ≤ i ∧ i < n) (hv : g i.toNat = jn z) (k : mj_T D M (pc + 1) loc (.int (jn z) :: st) h Q) : mj_T D M pc loc (.int (jn i) :: .ref a :: st) h Q := mj_T.iald hc ha hi h0 (by rw [hv]; exact k)
theorem jw_gather_loop {D n m x y : Nat} {g0 : Int32} {sg : Int} {g q : Nat → Int32} (hn : n < 2147483648) (hm : m < 2147483648) (hcap : jnl (x + y) ≤ n) (hy : jnl y ≤ m) (hg : ∀ j, j < jnl x → g j = jn (jlb x j)) (hq : ∀ j, j < jnl y → q j = jn (jlb y j)) {Q : mj_R → Prop}
    (hend : ∀ (gi : Nat → Int32) (sz : Int), (jnl (x + y) = 0 ∨ sz = jnl (x + y)) → (∀ j, j < jnl (x + y) → gi j = jn (jlb (x + y) j)) → Q (.inl none, [.inr (8, [.ref 1, .int (jn sz), .int g0]), .inl (0, n, fun j => .int (gi j)), .inr (8, [.ref 3, .int (jn (jnl y)), .int (jn sg)]), .inl (0, m, fun j => .int (q j))])) :
    ∀ (d i : Nat) (gi : Nat → Int32) (sz : Int) (l6 : Option Value), i + d = n → i ≤ jnl (x + y) → (i = 0 ∨ sz = i) → (∀ j, j < i → gi j = jn (jlb (x + y) j)) → (∀ j, i ≤ j → gi j = g j) →
      mj_T D mj_m93 24 [some (.ref 0), some (.ref 2), some (.int (jn (jnl x))), some (.int (jn (jnl y))), some (.int (jn (jcy x y i))), some (.int (jn i)), l6] [] [.inr (8, [.ref 1, .int (jn sz), .int g0]), .inl (0, n, fun j => .int (gi j)), .inr (8, [.ref 3, .int (jn (jnl y)), .int (jn sg)]), .inl (0, m, fun j => .int (q j))] Q := by
  intro d
  induction d with
  | zero =>
    intro i gi sz l6 hid hil hsz hg1 hg2
    iterate 3 refine mj_T.pl rfl rfl rfl rfl ?_
    refine mj_T.alen rfl rfl ?_
    refine mj_T.icmp rfl ⟨by omega, by omega⟩ ⟨by omega, by omega⟩ (fun hc31 => ?_) (fun hc31 => ?_)
    · have e : i = jnl (x + y) := by omega
      subst e
      exact mj_T.ret rfl rfl rfl (hend gi sz (by omega) hg1)
    · simp only [jc, decide_eq_false_iff_not] at hc31; omega
  | succ d ih =>
    intro i gi sz l6 hid hil hsz hg1 hg2
    have hcx := jcy_le x y i
    have hxn : jnl x ≤ n := Nat.le_trans (jnl_mono (Nat.le_add_right x y)) hcap
    iterate 3 refine mj_T.pl rfl rfl rfl rfl ?_
    refine mj_T.alen rfl rfl ?_
    refine mj_T.icmp rfl ⟨by omega, by omega⟩ ⟨by omega, by omega⟩ (fun hc31 => ?_) (fun hc31 => ?_)
    · simp only [jc, decide_eq_true_eq] at hc31; omega
    clear hc31
    have key : (i < jnl x ∨ i < jnl y ∨ 0 < jcy x y i) → mj_T D mj_m93 51 [some (.ref 0), some (.ref 2), some (.int (jn (jnl x))), some (.int (jn (jnl y))), some (.int (jn (jcy x y i))), some (.int (jn i)), l6] [] [.inr (8, [.ref 1, .int (jn sz), .int g0]), .inl (0, n, fun j => .int (gi j)), .inr (8, [.ref 3, .int (jn (jnl y)), .int (jn sg)]), .inl (0, m, fun j => .int (q j))] Q := by
      intro hgo
      have hl := jcy_limb x y i
      have hnx := jcy_next x y i
      have hx1 := jlb_lt x i
      have hy1 := jlb_lt y i
      have hnl := jcy_grow hgo
      have t5 : ∀ (z s : Int), s = (jlb x i + jlb y i + jcy x y i : Nat) → z = (jcy x y (i + 1) : Nat) → mj_T D mj_m93 103 [some (.ref 0), some (.ref 2), some (.int (jn (jnl x))), some (.int (jn (jnl y))), some (.int (jn (jcy x y i))), some (.int (jn i)), some (.int (jn s))] [.int (jn z)] [.inr (8, [.ref 1, .int (jn sz), .int g0]), .inl (0, n, fun j => .int (gi j)), .inr (8, [.ref 3, .int (jn (jnl y)), .int (jn sg)]), .inl (0, m, fun j => .int (q j))] Q := by
        intro z s hs hz
        iterate 7 refine mj_T.pl rfl rfl rfl rfl ?_
        refine mj_T.imul (b := 1000000000) rfl ?_
        refine mj_T.isub rfl ?_
        refine mj_T.iast rfl rfl ⟨by omega, by omega⟩ ⟨by omega, by omega⟩ ?_
        iterate 3 refine mj_T.pl rfl rfl rfl rfl ?_
        refine mj_T.iadd (b := 1) rfl ?_
        refine mj_T.pl rfl rfl rfl rfl ?_
        refine mj_T.iinc (a := i) rfl rfl ?_
        refine mj_T.pl rfl rfl rfl rfl ?_
        subst hz
        refine ih (i + 1) (upd gi i (jn (s - (jcy x y (i + 1) : Nat) * 1000000000))) (i + 1) (some (.int (jn s))) (by omega) (by omega) (Or.inr (by omega)) (fun j hj => ?_) (fun j hj => ?_)
        · unfold upd
          split
          · rename_i h
            subst h
            congr 1
            rw [hl, hs, hnx]
            have := Nat.div_add_mod (jlb x j + jlb y j + jcy x y j) 1000000000
            show _ = (((jlb x j + jlb y j + jcy x y j) % 1000000000 : Nat) : Int)
            have e2 : ((jlb x j + jlb y j + jcy x y j) / jB : Nat) = (jlb x j + jlb y j + jcy x y j) / 1000000000 := rfl
            rw [e2]
            omega
          · exact hg1 j (by omega)
        · unfold upd
          rw [if_neg (by omega)]
          exact hg2 j (by omega)
      have t4 : ∀ (z : Int) (s : Int), s = (jlb x i + jcy x y i : Nat) → z = (jlb y i : Nat) → mj_T D mj_m93 88 [some (.ref 0), some (.ref 2), some (.int (jn (jnl x))), some (.int (jn (jnl y))), some (.int (jn (jcy x y i))), some (.int (jn i)), l6] [.int (jn z), .int (jn s)] [.inr (8, [.ref 1, .int (jn sz), .int g0]), .inl (0, n, fun j => .int (gi j)), .inr (8, [.ref 3, .int (jn (jnl y)), .int (jn sg)]), .inl (0, m, fun j => .int (q j))] Q := by
        intro z s hs hz
        refine mj_T.iadd rfl ?_
        iterate 3 refine mj_T.pl rfl rfl rfl rfl ?_
        have e2 : ((jlb x i + jlb y i + jcy x y i) / jB : Nat) = (jlb x i + jlb y i + jcy x y i) / 1000000000 := rfl
        refine mj_T.icmp (b := 1000000000) rfl ⟨by omega, by omega⟩ ⟨by omega, by omega⟩ (fun hc95 => ?_) (fun hc95 => ?_)
        · simp only [jc, decide_eq_true_eq] at hc95
          refine mj_T.pl rfl rfl rfl rfl ?_
          exact t5 0 (s + z) (by omega) (by omega)
        · simp only [jc, decide_eq_false_iff_not] at hc95
          iterate 2 refine mj_T.pl rfl rfl rfl rfl ?_
          exact t5 1 (s + z) (by omega) (by omega)
      have t3 : ∀ (z : Int), z = (jlb x i : Nat) → mj_T D mj_m93 70 [some (.ref 0), some (.ref 2), some (.int (jn (jnl x))), some (.int (jn (jnl y))), some (.int (jn (jcy x y i))), some (.int (jn i)), l6] [.int (jn z), .int (jn (jcy x y i))] [.inr (8, [.ref 1, .int (jn sz), .int g0]), .inl (0, n, fun j => .int (gi j)), .inr (8, [.ref 3, .int (jn (jnl y)), .int (jn sg)]), .inl (0, m, fun j => .int (q j))] Q := by
        intro z hz
        refine mj_T.iadd rfl ?_
        iterate 2 refine mj_T.pl rfl rfl rfl rfl ?_
        refine mj_T.icmp rfl ⟨by omega, by omega⟩ ⟨by omega, by omega⟩ (fun hc74 => ?_) (fun hc74 => ?_)
        · simp only [jc, decide_eq_true_eq] at hc74
          refine mj_T.pl rfl rfl rfl rfl ?_
          exact t4 0 _ (by omega) (by have := jlb_high (x := y) (j := i) (by omega); omega)
        · simp only [jc, decide_eq_false_iff_not] at hc74
          iterate 3 refine mj_T.pl rfl rfl rfl rfl ?_
          refine mj_T.ialv rfl rfl ⟨by omega, by omega⟩ ⟨by omega, by omega⟩ (hq i (by omega)) ?_
          refine mj_T.pl rfl rfl rfl rfl ?_
          exact t4 _ _ (by omega) rfl
      iterate 3 refine mj_T.pl rfl rfl rfl rfl ?_
      refine mj_T.icmp rfl ⟨by omega, by omega⟩ ⟨by omega, by omega⟩ (fun hc56 => ?_) (fun hc56 => ?_)
      · simp only [jc, decide_eq_true_eq] at hc56
        refine mj_T.pl rfl rfl rfl rfl ?_
        exact t3 0 (by have := jlb_high (x := x) (j := i) (by omega); omega)
      · simp only [jc, decide_eq_false_iff_not] at hc56
        iterate 3 refine mj_T.pl rfl rfl rfl rfl ?_
        refine mj_T.ialv rfl rfl ⟨by omega, by omega⟩ ⟨by omega, by omega⟩ ((hg2 i (Nat.le_refl i)).trans (hg i (by omega))) ?_
        refine mj_T.pl rfl rfl rfl rfl ?_
        exact t3 _ rfl
    iterate 2 refine mj_T.pl rfl rfl rfl rfl ?_
    refine mj_T.icmp rfl ⟨by omega, by omega⟩ ⟨by omega, by omega⟩ (fun hc37 => ?_) (fun hc37 => ?_)
    · simp only [jc, decide_eq_true_eq] at hc37
      exact key (by omega)
    · simp only [jc, decide_eq_false_iff_not] at hc37
      iterate 2 refine mj_T.pl rfl rfl rfl rfl ?_
      refine mj_T.icmp rfl ⟨by omega, by omega⟩ ⟨by omega, by omega⟩ (fun hc43 => ?_) (fun hc43 => ?_)
      · simp only [jc, decide_eq_true_eq] at hc43
        exact key (by omega)
      · simp only [jc, decide_eq_false_iff_not] at hc43
        refine mj_T.pl rfl rfl rfl rfl ?_
        refine mj_T.if0 rfl ⟨by omega, by omega⟩ (fun hc48 => ?_) (fun hc48 => ?_)
        · simp only [jc, decide_eq_true_eq] at hc48
          have e : i = jnl (x + y) := by have := jcy_end (x := x) (y := y) (i := i) (by omega) (by omega) (by omega); omega
          subst e
          exact mj_T.ret rfl rfl rfl (hend gi sz (by omega) hg1)
        · simp only [jc, decide_eq_false_iff_not] at hc48
          exact key (by omega)
theorem jw_gather {D n m x y : Nat} {sg : Int} {g0 : Int32} {g q : Nat → Int32} (hn : n < 2147483648) (hm : m < 2147483648) (hcap : jnl (x + y) ≤ n) (hy : jnl y ≤ m) (hg : ∀ j, j < jnl x → g j = jn (jlb x j)) (hq : ∀ j, j < jnl y → q j = jn (jlb y j)) (h0 : 0 < x) :
    mj_Ok (D + 1) 93 [.ref 0, .ref 2] [.inr (8, [.ref 1, .int (jn (jnl x)), .int g0]), .inl (0, n, fun j => .int (g j)), .inr (8, [.ref 3, .int (jn (jnl y)), .int (jn sg)]), .inl (0, m, fun j => .int (q j))]
      (fun r => ∃ g' : Nat → Int32, (∀ j, j < jnl (x + y) → g' j = jn (jlb (x + y) j)) ∧ r = (.inl none, [.inr (8, [.ref 1, .int (jn (jnl (x + y))), .int g0]), .inl (0, n, fun j => .int (g' j)), .inr (8, [.ref 3, .int (jn (jnl y)), .int (jn sg)]), .inl (0, m, fun j => .int (q j))])) := by
  have hxn : jnl x ≤ n := Nat.le_trans (jnl_mono (Nat.le_add_right x y)) hcap
  refine mj_Ok.of (M := mj_m93) rfl rfl rfl ?_
  iterate 7 refine mj_T.pl rfl rfl rfl rfl ?_
  refine mj_T.alen rfl rfl ?_
  refine mj_T.imin rfl rfl (Nat.le_of_ble_eq_true rfl) ⟨by omega, by omega⟩ ⟨by omega, by omega⟩ ?_
  rw [show min (jnl y : Int) (m : Int) = (jnl y : Nat) by omega]
  iterate 5 refine mj_T.pl rfl rfl rfl rfl ?_
  refine mj_T.eq (jw_gather_loop (x := x) (y := y) (g := g) (q := q) hn hm hcap hy hg hq (fun gi sz hsz hgi => ?_) n 0 g (jnl x) none (by omega) (Nat.zero_le _) (Or.inl rfl) (fun j hj => by omega) (fun j _ => rfl)) rfl ?_ rfl rfl
  · rcases hsz with h | h
    · have := jnl_eq0.mp h; omega
    · subst h; exact ⟨gi, hgi, rfl⟩
  · rw [jcy_zero]; rfl
/-! Taking away by limbs. -/
theorem jnl_mod_top {z i : Nat} (h : jlb z i ≠ 0) : jnl (z % jB ^ (i + 1)) = i + 1 := by
  have h1 : jnl (z % jB ^ (i + 1)) ≤ i + 1 := jnl_of (Nat.mod_lt _ (jB_pow _))
  have h2 : ¬ jnl (z % jB ^ (i + 1)) ≤ i := by
    rw [jnl_le_lt, jmod]
    have h3 := Nat.mul_le_mul_right (jB ^ i) (Nat.pos_of_ne_zero h)
    intro h4
    exact absurd (Nat.lt_of_le_of_lt (Nat.le_trans h3 (Nat.le_add_right _ _)) h4) (by simp)
  omega
theorem jnl_mod_same {z i : Nat} (h : jlb z i = 0) : jnl (z % jB ^ (i + 1)) = jnl (z % jB ^ i) := by
  rw [jmod, h, Nat.zero_mul, Nat.zero_add]
theorem jnl_mod_le (z i : Nat) : jnl (z % jB ^ i) ≤ i := jnl_of (Nat.mod_lt _ (jB_pow _))
/-- the heap of two Wides -/
abbrev jH2 (n m : Nat) (s1 s2 : Int) (g0 : Int32) (sg : Int) (g q : Nat → Int32) : mj_H := [.inr (8, [.ref 1, .int (jn s1), .int g0]), .inl (0, n, fun j => .int (g j)), .inr (8, [.ref 3, .int (jn s2), .int (jn sg)]), .inl (0, m, fun j => .int (q j))]
theorem jw_differA_loop {D n m x y z : Nat} {g0 : Int32} {sg : Int} {g q : Nat → Int32} (hn : n < 2147483648) (hm : m < 2147483648) (hxz : x = z + y) (hx : jnl x ≤ n) (hxm : jnl x ≤ m) (hy : jnl y ≤ n) (hg : ∀ j, j < jnl y → g j = jn (jlb y j)) (hq : ∀ j, j < jnl x → q j = jn (jlb x j)) {Q : mj_R → Prop}
    (hend : ∀ (gi : Nat → Int32), (∀ j, j < jnl z → gi j = jn (jlb z j)) → Q (.inl none, jH2 n m (jnl z) (jnl x) g0 sg gi q)) :
    ∀ (d i : Nat) (gi : Nat → Int32) (l8 : Option Value), i + d = jnl x → (∀ j, j < i → gi j = jn (jlb z j)) → (∀ j, i ≤ j → gi j = g j) →
      mj_T D mj_m94 44 [some (.ref 0), some (.ref 2), some (.ref 0), some (.int (jn (jnl x))), some (.int (jn (jnl y))), some (.int (jn (jnl (z % jB ^ i)))), some (.int (jn (jcy z y i))), some (.int (jn i)), l8] [] (jH2 n m (jnl y) (jnl x) g0 sg gi q) Q := by
  intro d
  have hzx : jnl z ≤ jnl x := jnl_mono (by omega)
  have hyx : jnl y ≤ jnl x := jnl_mono (by omega)
  induction d with
  | zero =>
    intro i gi l8 hid hg1 hg2
    iterate 2 refine mj_T.pl rfl rfl rfl rfl ?_
    refine mj_T.icmp rfl ⟨by omega, by omega⟩ ⟨by omega, by omega⟩ (fun hc47 => ?_) (fun hc47 => ?_)
    · iterate 3 refine mj_T.pl rfl rfl rfl rfl ?_
      rw [jmod_full (show jnl z ≤ i by omega)]
      exact mj_T.ret rfl rfl rfl (hend gi (fun j hj => hg1 j (by omega)))
    · simp only [jc, decide_eq_false_iff_not] at hc47; omega
  | succ d ih =>
    intro i gi l8 hid hg1 hg2
    have hcx := jcy_le z y i
    have hcx2 := jcy_le z y (i + 1)
    have hl := jcy_limb z y i
    have hnx := jcy_next z y i
    rw [← hxz] at hl
    have hz1 := jlb_lt z i
    have hy1 := jlb_lt y i
    have hx1 := jlb_lt x i
    have hu := jnl_mod_le z i
    have hdm := Nat.div_add_mod (jlb z i + jlb y i + jcy z y i) 1000000000
    have hl2 : jlb x i = (jlb z i + jlb y i + jcy z y i) % 1000000000 := hl
    have hnx2 : jcy z y (i + 1) = (jlb z i + jlb y i + jcy z y i) / 1000000000 := hnx
    iterate 2 refine mj_T.pl rfl rfl rfl rfl ?_
    refine mj_T.icmp rfl ⟨by omega, by omega⟩ ⟨by omega, by omega⟩ (fun hc47 => ?_) (fun hc47 => ?_)
    · simp only [jc, decide_eq_true_eq] at hc47; omega
    clear hc47
    have t4 : ∀ (gi' : Nat → Int32) (v l8 : Value), v = .int (jn (jnl (z % jB ^ (i + 1)))) → gi' = upd gi i (jn (jlb z i)) → mj_T D mj_m94 127 [some (.ref 0), some (.ref 2), some (.ref 0), some (.int (jn (jnl x))), some (.int (jn (jnl y))), some (.int (jn (jnl (z % jB ^ i)))), some (.int (jn (jcy z y (i + 1)))), some (.int (jn i)), some l8] [v] (jH2 n m (jnl y) (jnl x) g0 sg gi' q) Q := by
      intro gi' v l8 hv hgi
      subst hv
      subst hgi
      refine mj_T.pl rfl rfl rfl rfl ?_
      refine mj_T.iinc (a := i) rfl rfl ?_
      refine mj_T.pl rfl rfl rfl rfl ?_
      refine ih (i + 1) (upd gi i (jn (jlb z i))) (some l8) (by omega) (fun j hj => ?_) (fun j hj => ?_)
      · unfold upd
        split
        · rename_i h; rw [h]
        · exact hg1 j (by omega)
      · unfold upd
        rw [if_neg (by omega)]
        exact hg2 j (by omega)
    have t3 : ∀ (s b : Int), s = (jlb z i : Int) - (jcy z y (i + 1) : Nat) * 1000000000 → b = (jcy z y (i + 1) : Nat) → mj_T D mj_m94 91 [some (.ref 0), some (.ref 2), some (.ref 0), some (.int (jn (jnl x))), some (.int (jn (jnl y))), some (.int (jn (jnl (z % jB ^ i)))), some (.int (jn (jcy z y i))), some (.int (jn i)), some (.int (jn s))] [.int (jn b)] (jH2 n m (jnl y) (jnl x) g0 sg gi q) Q := by
      intro s b hs hb
      subst hb
      iterate 7 refine mj_T.pl rfl rfl rfl rfl ?_
      refine mj_T.imul (b := 1000000000) rfl ?_
      refine mj_T.iadd rfl ?_
      rw [show s + ((jcy z y (i + 1) : Nat) : Int) * 1000000000 = ((jlb z i : Nat) : Int) by omega]
      refine mj_T.iast rfl rfl ⟨by omega, by omega⟩ ⟨by omega, by omega⟩ ?_
      iterate 3 refine mj_T.pl rfl rfl rfl rfl ?_
      refine mj_T.ialv (z := (jlb z i : Nat)) rfl rfl ⟨by omega, by omega⟩ ⟨by omega, by omega⟩ (if_pos rfl) ?_
      refine mj_T.if0 rfl ⟨by omega, by omega⟩ (fun hc115 => ?_) (fun hc115 => ?_)
      · simp only [jc, decide_eq_true_eq] at hc115
        refine mj_T.pl rfl rfl rfl rfl ?_
        exact t4 _ _ _ (by rw [jnl_mod_same (by omega)]) rfl
      · simp only [jc, decide_eq_false_iff_not] at hc115
        iterate 2 refine mj_T.pl rfl rfl rfl rfl ?_
        refine mj_T.iadd (b := 1) rfl ?_
        refine mj_T.pl rfl rfl rfl rfl ?_
        exact t4 _ _ _ (by rw [jnl_mod_top (by omega)]; rfl) rfl
    have t2 : ∀ (w : Int), w = (jlb y i : Nat) → mj_T D mj_m94 78 [some (.ref 0), some (.ref 2), some (.ref 0), some (.int (jn (jnl x))), some (.int (jn (jnl y))), some (.int (jn (jnl (z % jB ^ i)))), some (.int (jn (jcy z y i))), some (.int (jn i)), l8] [.int (jn w), .int (jn ((jlb x i : Nat) - (jcy z y i : Nat)))] (jH2 n m (jnl y) (jnl x) g0 sg gi q) Q := by
      intro w hw
      refine mj_T.isub rfl ?_
      iterate 2 refine mj_T.pl rfl rfl rfl rfl ?_
      refine mj_T.if0 rfl ⟨by omega, by omega⟩ (fun hc83 => ?_) (fun hc83 => ?_)
      · simp only [jc, decide_eq_true_eq] at hc83
        refine mj_T.pl rfl rfl rfl rfl ?_
        exact t3 _ 0 (by omega) (by omega)
      · simp only [jc, decide_eq_false_iff_not] at hc83
        iterate 2 refine mj_T.pl rfl rfl rfl rfl ?_
        exact t3 _ 1 (by omega) (by omega)
    iterate 3 refine mj_T.pl rfl rfl rfl rfl ?_
    refine mj_T.ialv rfl rfl ⟨by omega, by omega⟩ ⟨by omega, by omega⟩ (hq i (by omega)) ?_
    refine mj_T.pl rfl rfl rfl rfl ?_
    refine mj_T.isub rfl ?_
    iterate 2 refine mj_T.pl rfl rfl rfl rfl ?_
    refine mj_T.icmp rfl ⟨by omega, by omega⟩ ⟨by omega, by omega⟩ (fun hc64 => ?_) (fun hc64 => ?_)
    · simp only [jc, decide_eq_true_eq] at hc64
      refine mj_T.pl rfl rfl rfl rfl ?_
      exact t2 0 (by have := jlb_high (x := y) (j := i) (by omega); omega)
    · simp only [jc, decide_eq_false_iff_not] at hc64
      iterate 3 refine mj_T.pl rfl rfl rfl rfl ?_
      refine mj_T.ialv rfl rfl ⟨by omega, by omega⟩ ⟨by omega, by omega⟩ ((hg2 i (Nat.le_refl i)).trans (hg i (by omega))) ?_
      refine mj_T.pl rfl rfl rfl rfl ?_
      exact t2 _ rfl
theorem jw_differA {D n m x y z : Nat} {sg : Int} {g0 : Int32} {g q : Nat → Int32} (hn : n < 2147483648) (hm : m < 2147483648) (hxz : x = z + y) (hx : jnl x ≤ n) (hxm : jnl x ≤ m) (hy : jnl y ≤ n) (hg : ∀ j, j < jnl y → g j = jn (jlb y j)) (hq : ∀ j, j < jnl x → q j = jn (jlb x j)) :
    mj_Ok (D + 1) 94 [.ref 0, .ref 2, .ref 0] (jH2 n m (jnl y) (jnl x) g0 sg g q)
      (fun r => ∃ g' : Nat → Int32, (∀ j, j < jnl z → g' j = jn (jlb z j)) ∧ r = (.inl none, jH2 n m (jnl z) (jnl x) g0 sg g' q)) := by
  refine mj_Ok.of (M := mj_m94) rfl rfl rfl ?_
  iterate 4 refine mj_T.pl rfl rfl rfl rfl ?_
  refine mj_T.alen rfl rfl ?_
  iterate 2 refine mj_T.pl rfl rfl rfl rfl ?_
  refine mj_T.alen rfl rfl ?_
  refine mj_T.imin rfl rfl (Nat.le_of_ble_eq_true rfl) ⟨by omega, by omega⟩ ⟨by omega, by omega⟩ ?_
  refine mj_T.imin rfl rfl (Nat.le_of_ble_eq_true rfl) ⟨by omega, by omega⟩ ⟨by omega, by omega⟩ ?_
  rw [show min (jnl x : Int) (min (n : Int) (m : Int)) = (jnl x : Nat) by omega]
  iterate 5 refine mj_T.pl rfl rfl rfl rfl ?_
  refine mj_T.alen rfl rfl ?_
  refine mj_T.imin rfl rfl (Nat.le_of_ble_eq_true rfl) ⟨by omega, by omega⟩ ⟨by omega, by omega⟩ ?_
  rw [show min (jnl y : Int) (n : Int) = (jnl y : Nat) by omega]
  iterate 7 refine mj_T.pl rfl rfl rfl rfl ?_
  refine mj_T.eq (jw_differA_loop (x := x) (y := y) (z := z) (g := g) (q := q) hn hm hxz hx hxm hy hg hq (fun gi hgi => ⟨gi, hgi, rfl⟩) (jnl x) 0 g none (by omega) (fun j hj => by omega) (fun j _ => rfl)) rfl ?_ rfl rfl
  rw [jcy_zero, show z % jB ^ 0 = 0 by simp [Nat.mod_one], jnl_zero]
  rfl
theorem jw_differB_loop {D n m x y z : Nat} {g0 : Int32} {sg : Int} {g q : Nat → Int32} (hn : n < 2147483648) (hm : m < 2147483648) (hxz : x = z + y) (hx : jnl x ≤ n) (hxm : jnl x ≤ n) (hy : jnl y ≤ m) (hg : ∀ j, j < jnl x → g j = jn (jlb x j)) (hq : ∀ j, j < jnl y → q j = jn (jlb y j)) {Q : mj_R → Prop}
    (hend : ∀ (gi : Nat → Int32), (∀ j, j < jnl z → gi j = jn (jlb z j)) → Q (.inl none, jH2 n m (jnl z) (jnl y) g0 sg gi q)) :
    ∀ (d i : Nat) (gi : Nat → Int32) (l8 : Option Value), i + d = jnl x → (∀ j, j < i → gi j = jn (jlb z j)) → (∀ j, i ≤ j → gi j = g j) →
      mj_T D mj_m94 44 [some (.ref 0), some (.ref 0), some (.ref 2), some (.int (jn (jnl x))), some (.int (jn (jnl y))), some (.int (jn (jnl (z % jB ^ i)))), some (.int (jn (jcy z y i))), some (.int (jn i)), l8] [] (jH2 n m (jnl x) (jnl y) g0 sg gi q) Q := by
  intro d
  have hzx : jnl z ≤ jnl x := jnl_mono (by omega)
  have hyx : jnl y ≤ jnl x := jnl_mono (by omega)
  induction d with
  | zero =>
    intro i gi l8 hid hg1 hg2
    iterate 2 refine mj_T.pl rfl rfl rfl rfl ?_
    refine mj_T.icmp rfl ⟨by omega, by omega⟩ ⟨by omega, by omega⟩ (fun hc47 => ?_) (fun hc47 => ?_)
    · iterate 3 refine mj_T.pl rfl rfl rfl rfl ?_
      rw [jmod_full (show jnl z ≤ i by omega)]
      exact mj_T.ret rfl rfl rfl (hend gi (fun j hj => hg1 j (by omega)))
    · simp only [jc, decide_eq_false_iff_not] at hc47; omega
  | succ d ih =>
    intro i gi l8 hid hg1 hg2
    have hcx := jcy_le z y i
    have hcx2 := jcy_le z y (i + 1)
    have hl := jcy_limb z y i
    have hnx := jcy_next z y i
    rw [← hxz] at hl
    have hz1 := jlb_lt z i
    have hy1 := jlb_lt y i
    have hx1 := jlb_lt x i
    have hu := jnl_mod_le z i
    have hdm := Nat.div_add_mod (jlb z i + jlb y i + jcy z y i) 1000000000
    have hl2 : jlb x i = (jlb z i + jlb y i + jcy z y i) % 1000000000 := hl
    have hnx2 : jcy z y (i + 1) = (jlb z i + jlb y i + jcy z y i) / 1000000000 := hnx
    iterate 2 refine mj_T.pl rfl rfl rfl rfl ?_
    refine mj_T.icmp rfl ⟨by omega, by omega⟩ ⟨by omega, by omega⟩ (fun hc47 => ?_) (fun hc47 => ?_)
    · simp only [jc, decide_eq_true_eq] at hc47; omega
    clear hc47
    have t4 : ∀ (gi' : Nat → Int32) (v l8 : Value), v = .int (jn (jnl (z % jB ^ (i + 1)))) → gi' = upd gi i (jn (jlb z i)) → mj_T D mj_m94 127 [some (.ref 0), some (.ref 0), some (.ref 2), some (.int (jn (jnl x))), some (.int (jn (jnl y))), some (.int (jn (jnl (z % jB ^ i)))), some (.int (jn (jcy z y (i + 1)))), some (.int (jn i)), some l8] [v] (jH2 n m (jnl x) (jnl y) g0 sg gi' q) Q := by
      intro gi' v l8 hv hgi
      subst hv
      subst hgi
      refine mj_T.pl rfl rfl rfl rfl ?_
      refine mj_T.iinc (a := i) rfl rfl ?_
      refine mj_T.pl rfl rfl rfl rfl ?_
      refine ih (i + 1) (upd gi i (jn (jlb z i))) (some l8) (by omega) (fun j hj => ?_) (fun j hj => ?_)
      · unfold upd
        split
        · rename_i h; rw [h]
        · exact hg1 j (by omega)
      · unfold upd
        rw [if_neg (by omega)]
        exact hg2 j (by omega)
    have t3 : ∀ (s b : Int), s = (jlb z i : Int) - (jcy z y (i + 1) : Nat) * 1000000000 → b = (jcy z y (i + 1) : Nat) → mj_T D mj_m94 91 [some (.ref 0), some (.ref 0), some (.ref 2), some (.int (jn (jnl x))), some (.int (jn (jnl y))), some (.int (jn (jnl (z % jB ^ i)))), some (.int (jn (jcy z y i))), some (.int (jn i)), some (.int (jn s))] [.int (jn b)] (jH2 n m (jnl x) (jnl y) g0 sg gi q) Q := by
      intro s b hs hb
      subst hb
      iterate 7 refine mj_T.pl rfl rfl rfl rfl ?_
      refine mj_T.imul (b := 1000000000) rfl ?_
      refine mj_T.iadd rfl ?_
      rw [show s + ((jcy z y (i + 1) : Nat) : Int) * 1000000000 = ((jlb z i : Nat) : Int) by omega]
      refine mj_T.iast rfl rfl ⟨by omega, by omega⟩ ⟨by omega, by omega⟩ ?_
      iterate 3 refine mj_T.pl rfl rfl rfl rfl ?_
      refine mj_T.ialv (z := (jlb z i : Nat)) rfl rfl ⟨by omega, by omega⟩ ⟨by omega, by omega⟩ (if_pos rfl) ?_
      refine mj_T.if0 rfl ⟨by omega, by omega⟩ (fun hc115 => ?_) (fun hc115 => ?_)
      · simp only [jc, decide_eq_true_eq] at hc115
        refine mj_T.pl rfl rfl rfl rfl ?_
        exact t4 _ _ _ (by rw [jnl_mod_same (by omega)]) rfl
      · simp only [jc, decide_eq_false_iff_not] at hc115
        iterate 2 refine mj_T.pl rfl rfl rfl rfl ?_
        refine mj_T.iadd (b := 1) rfl ?_
        refine mj_T.pl rfl rfl rfl rfl ?_
        exact t4 _ _ _ (by rw [jnl_mod_top (by omega)]; rfl) rfl
    have t2 : ∀ (w : Int), w = (jlb y i : Nat) → mj_T D mj_m94 78 [some (.ref 0), some (.ref 0), some (.ref 2), some (.int (jn (jnl x))), some (.int (jn (jnl y))), some (.int (jn (jnl (z % jB ^ i)))), some (.int (jn (jcy z y i))), some (.int (jn i)), l8] [.int (jn w), .int (jn ((jlb x i : Nat) - (jcy z y i : Nat)))] (jH2 n m (jnl x) (jnl y) g0 sg gi q) Q := by
      intro w hw
      refine mj_T.isub rfl ?_
      iterate 2 refine mj_T.pl rfl rfl rfl rfl ?_
      refine mj_T.if0 rfl ⟨by omega, by omega⟩ (fun hc83 => ?_) (fun hc83 => ?_)
      · simp only [jc, decide_eq_true_eq] at hc83
        refine mj_T.pl rfl rfl rfl rfl ?_
        exact t3 _ 0 (by omega) (by omega)
      · simp only [jc, decide_eq_false_iff_not] at hc83
        iterate 2 refine mj_T.pl rfl rfl rfl rfl ?_
        exact t3 _ 1 (by omega) (by omega)
    iterate 3 refine mj_T.pl rfl rfl rfl rfl ?_
    refine mj_T.ialv rfl rfl ⟨by omega, by omega⟩ ⟨by omega, by omega⟩ ((hg2 i (Nat.le_refl i)).trans (hg i (by omega))) ?_
    refine mj_T.pl rfl rfl rfl rfl ?_
    refine mj_T.isub rfl ?_
    iterate 2 refine mj_T.pl rfl rfl rfl rfl ?_
    refine mj_T.icmp rfl ⟨by omega, by omega⟩ ⟨by omega, by omega⟩ (fun hc64 => ?_) (fun hc64 => ?_)
    · simp only [jc, decide_eq_true_eq] at hc64
      refine mj_T.pl rfl rfl rfl rfl ?_
      exact t2 0 (by have := jlb_high (x := y) (j := i) (by omega); omega)
    · simp only [jc, decide_eq_false_iff_not] at hc64
      iterate 3 refine mj_T.pl rfl rfl rfl rfl ?_
      refine mj_T.ialv rfl rfl ⟨by omega, by omega⟩ ⟨by omega, by omega⟩ (hq i (by omega)) ?_
      refine mj_T.pl rfl rfl rfl rfl ?_
      exact t2 _ rfl
theorem jw_differB {D n m x y z : Nat} {sg : Int} {g0 : Int32} {g q : Nat → Int32} (hn : n < 2147483648) (hm : m < 2147483648) (hxz : x = z + y) (hx : jnl x ≤ n) (hxm : jnl x ≤ n) (hy : jnl y ≤ m) (hg : ∀ j, j < jnl x → g j = jn (jlb x j)) (hq : ∀ j, j < jnl y → q j = jn (jlb y j)) :
    mj_Ok (D + 1) 94 [.ref 0, .ref 0, .ref 2] (jH2 n m (jnl x) (jnl y) g0 sg g q)
      (fun r => ∃ g' : Nat → Int32, (∀ j, j < jnl z → g' j = jn (jlb z j)) ∧ r = (.inl none, jH2 n m (jnl z) (jnl y) g0 sg g' q)) := by
  refine mj_Ok.of (M := mj_m94) rfl rfl rfl ?_
  iterate 4 refine mj_T.pl rfl rfl rfl rfl ?_
  refine mj_T.alen rfl rfl ?_
  iterate 2 refine mj_T.pl rfl rfl rfl rfl ?_
  refine mj_T.alen rfl rfl ?_
  refine mj_T.imin rfl rfl (Nat.le_of_ble_eq_true rfl) ⟨by omega, by omega⟩ ⟨by omega, by omega⟩ ?_
  refine mj_T.imin rfl rfl (Nat.le_of_ble_eq_true rfl) ⟨by omega, by omega⟩ ⟨by omega, by omega⟩ ?_
  rw [show min (jnl x : Int) (min (n : Int) (n : Int)) = (jnl x : Nat) by omega]
  iterate 5 refine mj_T.pl rfl rfl rfl rfl ?_
  refine mj_T.alen rfl rfl ?_
  refine mj_T.imin rfl rfl (Nat.le_of_ble_eq_true rfl) ⟨by omega, by omega⟩ ⟨by omega, by omega⟩ ?_
  rw [show min (jnl y : Int) (m : Int) = (jnl y : Nat) by omega]
  iterate 7 refine mj_T.pl rfl rfl rfl rfl ?_
  refine mj_T.eq (jw_differB_loop (x := x) (y := y) (z := z) (g := g) (q := q) hn hm hxz hx hxm hy hg hq (fun gi hgi => ⟨gi, hgi, rfl⟩) (jnl x) 0 g none (by omega) (fun j hj => by omega) (fun j _ => rfl)) rfl ?_ rfl rfl
  rw [jcy_zero, show z % jB ^ 0 = 0 by simp [Nat.mod_one], jnl_zero]
  rfl
/-! Comparing by limbs. -/
theorem jlt_div {x y k : Nat} (h : x / k < y / k) : x < y := Nat.lt_of_not_le fun hle => absurd (Nat.div_le_div_right (c := k) hle) (Nat.not_le.mpr h)
theorem jlt_of {x y i : Nat} (h : x / jB ^ (i + 1) = y / jB ^ (i + 1)) (hl : jlb x i < jlb y i) : x < y := by
  have h1 := jdiv x i
  have h2 := jdiv y i
  rw [h] at h1
  refine jlt_div (k := jB ^ i) ?_
  rw [h1, h2]
  exact Nat.add_lt_add_left hl _
theorem jeq_of {x y i : Nat} (h : x / jB ^ (i + 1) = y / jB ^ (i + 1)) (hl : jlb x i = jlb y i) : x / jB ^ i = y / jB ^ i := by rw [jdiv x i, jdiv y i, h, hl]
theorem jlt_nl {x y : Nat} (h : jnl x < jnl y) : x < y := by
  have h1 := jnl_lt.mp h
  have h2 := jnl_le.mp (Nat.le_refl (jnl x))
  refine jlt_div (k := jB ^ jnl x) ?_
  rw [h2]
  exact Nat.pos_of_ne_zero h1
theorem jw_isLess_loop {D n m x y : Nat} {g0 : Int32} {sg : Int} {g q : Nat → Int32} (hn : n < 2147483648) (hm : m < 2147483648) (hx : jnl x ≤ n) (hy : jnl x ≤ m) (hxy : jnl x = jnl y) (hg : ∀ j, j < jnl x → g j = jn (jlb x j)) (hq : ∀ j, j < jnl y → q j = jn (jlb y j)) {Q : mj_R → Prop}
    (hend : Q (.inl (some (.int (jn (if x < y then 1 else 0)))), jH2 n m (jnl x) (jnl y) g0 sg g q)) :
    ∀ (k : Nat) (v : Int), v = (k : Int) - 1 → k ≤ jnl x → x / jB ^ k = y / jB ^ k →
      mj_T D mj_m92 35 [some (.ref 0), some (.ref 2), some (.int (jn v))] [] (jH2 n m (jnl x) (jnl y) g0 sg g q) Q := by
  intro k
  induction k with
  | zero =>
    intro v hv hk he
    iterate 1 refine mj_T.pl rfl rfl rfl rfl ?_
    refine mj_T.if0 rfl ⟨by omega, by omega⟩ (fun hc36 => ?_) (fun hc36 => ?_)
    · iterate 1 refine mj_T.pl rfl rfl rfl rfl ?_
      rw [Nat.pow_zero, Nat.div_one, Nat.div_one] at he
      rw [if_neg (by omega)] at hend
      exact mj_T.ret rfl rfl rfl hend
    · simp only [jc, decide_eq_false_iff_not] at hc36; omega
  | succ k ih =>
    intro v hv hk he
    have ev : v = k := by omega
    subst ev
    have hx1 := jlb_lt x k
    have hy1 := jlb_lt y k
    refine mj_T.pl rfl rfl rfl rfl ?_
    refine mj_T.if0 rfl ⟨by omega, by omega⟩ (fun hc36 => ?_) (fun hc36 => ?_)
    · simp only [jc, decide_eq_true_eq] at hc36; omega
    · iterate 3 refine mj_T.pl rfl rfl rfl rfl ?_
      refine mj_T.alen rfl rfl ?_
      refine mj_T.icmp rfl ⟨by omega, by omega⟩ ⟨by omega, by omega⟩ (fun hc45 => ?_) (fun hc45 => ?_)
      · simp only [jc, decide_eq_true_eq] at hc45; omega
      · iterate 3 refine mj_T.pl rfl rfl rfl rfl ?_
        refine mj_T.alen rfl rfl ?_
        refine mj_T.icmp rfl ⟨by omega, by omega⟩ ⟨by omega, by omega⟩ (fun hc54 => ?_) (fun hc54 => ?_)
        · simp only [jc, decide_eq_true_eq] at hc54; omega
        · iterate 3 refine mj_T.pl rfl rfl rfl rfl ?_
          refine mj_T.ialv rfl rfl ⟨by omega, by omega⟩ ⟨by omega, by omega⟩ (hg k (by omega)) ?_
          iterate 3 refine mj_T.pl rfl rfl rfl rfl ?_
          refine mj_T.ialv rfl rfl ⟨by omega, by omega⟩ ⟨by omega, by omega⟩ (hq k (by omega)) ?_
          refine mj_T.icmp rfl ⟨by omega, by omega⟩ ⟨by omega, by omega⟩ (fun hc69 => ?_) (fun hc69 => ?_)
          · simp only [jc, decide_eq_true_eq] at hc69
            refine mj_T.iinc (a := k) rfl rfl ?_
            refine mj_T.pl rfl rfl rfl rfl ?_
            exact ih ((k : Int) + -1) (by omega) (by omega) (jeq_of he (by omega))
          · simp only [jc, decide_eq_false_iff_not] at hc69
            iterate 3 refine mj_T.pl rfl rfl rfl rfl ?_
            refine mj_T.ialv rfl rfl ⟨by omega, by omega⟩ ⟨by omega, by omega⟩ (hg k (by omega)) ?_
            iterate 3 refine mj_T.pl rfl rfl rfl rfl ?_
            refine mj_T.ialv rfl rfl ⟨by omega, by omega⟩ ⟨by omega, by omega⟩ (hq k (by omega)) ?_
            refine mj_T.icmp rfl ⟨by omega, by omega⟩ ⟨by omega, by omega⟩ (fun hc84 => ?_) (fun hc84 => ?_)
            · simp only [jc, decide_eq_true_eq] at hc84
              have := jlt_of he.symm (show jlb y k < jlb x k by omega)
              rw [if_neg (by omega)] at hend
              iterate 1 refine mj_T.pl rfl rfl rfl rfl ?_
              exact mj_T.ret rfl rfl rfl hend
            · simp only [jc, decide_eq_false_iff_not] at hc84
              have := jlt_of he (show jlb x k < jlb y k by omega)
              rw [if_pos this] at hend
              iterate 2 refine mj_T.pl rfl rfl rfl rfl ?_
              exact mj_T.ret rfl rfl rfl hend
theorem jw_isLess {D n m x y : Nat} {g0 : Int32} {sg : Int} {g q : Nat → Int32} (hn : n < 2147483648) (hm : m < 2147483648) (hx : jnl x ≤ n) (hy : jnl y ≤ m) (hg : ∀ j, j < jnl x → g j = jn (jlb x j)) (hq : ∀ j, j < jnl y → q j = jn (jlb y j)) :
    mj_Ok (D + 1) 92 [.ref 0, .ref 2] (jH2 n m (jnl x) (jnl y) g0 sg g q) (fun r => r = (.inl (some (.int (jn (if x < y then 1 else 0)))), jH2 n m (jnl x) (jnl y) g0 sg g q)) := by
  refine mj_Ok.of (M := mj_m92) rfl rfl rfl ?_
  iterate 4 refine mj_T.pl rfl rfl rfl rfl ?_
  refine mj_T.icmp rfl ⟨by omega, by omega⟩ ⟨by omega, by omega⟩ (fun hc8 => ?_) (fun hc8 => ?_)
  · simp only [jc, decide_eq_true_eq] at hc8
    iterate 3 refine mj_T.pl rfl rfl rfl rfl ?_
    refine mj_T.isub (b := 1) rfl ?_
    refine mj_T.pl rfl rfl rfl rfl ?_
    have e1 := jnl_le.mp (Nat.le_refl (jnl x))
    have e2 := jnl_le.mp (show jnl y ≤ jnl x by omega)
    exact jw_isLess_loop (x := x) (y := y) (Q := fun r => r = (.inl (some (.int (jn (if x < y then 1 else 0)))), jH2 n m (jnl x) (jnl y) g0 sg g q)) hn hm hx (by omega) (by omega) hg hq rfl (jnl x) _ rfl (Nat.le_refl _) (by rw [e1, e2])
  · simp only [jc, decide_eq_false_iff_not] at hc8
    iterate 4 refine mj_T.pl rfl rfl rfl rfl ?_
    refine mj_T.icmp rfl ⟨by omega, by omega⟩ ⟨by omega, by omega⟩ (fun hc19 => ?_) (fun hc19 => ?_)
    · simp only [jc, decide_eq_true_eq] at hc19
      have := jlt_nl (show jnl y < jnl x by omega)
      rw [if_neg (show ¬ x < y by omega)]
      iterate 1 refine mj_T.pl rfl rfl rfl rfl ?_
      exact mj_T.ret rfl rfl rfl rfl
    · simp only [jc, decide_eq_false_iff_not] at hc19
      have := jlt_nl (show jnl x < jnl y by omega)
      rw [if_pos this]
      iterate 2 refine mj_T.pl rfl rfl rfl rfl ?_
      exact mj_T.ret rfl rfl rfl rfl
/-! Wide: plus. -/
theorem jsg_range (v : Int) : -1 ≤ jsg v ∧ jsg v ≤ 1 := by unfold jsg; (repeat' split) <;> omega
theorem jsg_pos {v : Int} (h : 0 < v) : jsg v = 1 := by unfold jsg; rw [if_neg (by omega), if_pos h]
theorem jsg_neg {v : Int} (h : v < 0) : jsg v = -1 := by unfold jsg; rw [if_pos h]
theorem jsg_zero : jsg 0 = 0 := rfl
theorem jw_plus {D n m : Nat} {u w f : Int} {g q : Nat → Int32} (hn : n < 2147483648) (hm : m < 2147483648) (hf : f = 1 ∨ f = -1) (hu : jnl u.natAbs ≤ n) (hw : jnl w.natAbs ≤ m) (hwn : jnl w.natAbs ≤ n) (hcap : jnl (u + f * w).natAbs ≤ n) (hg : ∀ j, j < jnl u.natAbs → g j = jn (jlb u.natAbs j)) (hq : ∀ j, j < jnl w.natAbs → q j = jn (jlb w.natAbs j)) :
    mj_Ok (D + 2) 91 [.ref 0, .ref 2, .int (jn f)] (jH2 n m (jnl u.natAbs) (jnl w.natAbs) (jn (jsg u)) (jsg w) g q)
      (fun r => ∃ g' : Nat → Int32, (∀ j, j < jnl (u + f * w).natAbs → g' j = jn (jlb (u + f * w).natAbs j)) ∧ r = (.inl none, jH2 n m (jnl (u + f * w).natAbs) (jnl w.natAbs) (jn (jsg (u + f * w))) (jsg w) g' q)) := by
  have hsu := jsg_range u
  have hsw := jsg_range w
  have hfr : -1 ≤ jsg w * f ∧ jsg w * f ≤ 1 ∧ jsg w * f = jsg (f * w) := by
    rcases hf with rfl | rfl
    · rw [Int.mul_one, Int.one_mul]; exact ⟨hsw.1, hsw.2, rfl⟩
    · refine ⟨by omega, by omega, ?_⟩
      unfold jsg
      (repeat' split) <;> omega
  have hfw : (f * w).natAbs = w.natAbs := by rcases hf with rfl | rfl <;> omega
  generalize f * w = z at hcap hfr hfw ⊢
  refine mj_Ok.of (M := mj_m91) rfl rfl rfl ?_
  iterate 3 refine mj_T.pl rfl rfl rfl rfl ?_
  refine mj_T.imul rfl ?_
  obtain ⟨hf1, hf2, hf3⟩ := hfr
  rw [hf3] at hf1 hf2
  rw [hf3]
  iterate 2 refine mj_T.pl rfl rfl rfl rfl ?_
  refine mj_T.if0 rfl ⟨by omega, by omega⟩ (fun hc8 => ?_) (fun hc8 => ?_)
  · simp only [jc, Bool.not_eq_true', decide_eq_false_iff_not] at hc8
    have hz : z ≠ 0 := fun h => hc8 (by rw [h]; rfl)
    -- the end: the size tells the sign
    have fin : ∀ (g' : Nat → Int32) (v : Int), (∀ j, j < jnl (u + z).natAbs → g' j = jn (jlb (u + z).natAbs j)) → -1 ≤ v ∧ v ≤ 1 → (u + z ≠ 0 → v = jsg (u + z)) →
        mj_T (D + 1) mj_m91 76 [some (.ref 0), some (.ref 2), some (.int (jn f)), some (.int (jn (jsg z)))] [] (jH2 n m (jnl (u + z).natAbs) (jnl w.natAbs) (jn v) (jsg w) g' q)
          (fun r => ∃ g' : Nat → Int32, (∀ j, j < jnl (u + z).natAbs → g' j = jn (jlb (u + z).natAbs j)) ∧ r = (.inl none, jH2 n m (jnl (u + z).natAbs) (jnl w.natAbs) (jn (jsg (u + z))) (jsg w) g' q)) := by
      intro g' v hg' hv1 hv2
      iterate 3 refine mj_T.pl rfl rfl rfl rfl ?_
      refine mj_T.if0 rfl ⟨by omega, by omega⟩ (fun hc81 => ?_) (fun hc81 => ?_)
      · simp only [jc, Bool.not_eq_true', decide_eq_false_iff_not] at hc81
        have h0 : u + z ≠ 0 := fun h => hc81 (by rw [h]; exact congrArg Int.ofNat jnl_zero)
        rw [hv2 h0]
        iterate 3 refine mj_T.pl rfl rfl rfl rfl ?_
        exact mj_T.ret rfl rfl rfl ⟨g', hg', rfl⟩
      · simp only [jc, Bool.not_eq_false', decide_eq_true_eq] at hc81
        have h0 : u + z = 0 := by have := jnl_eq0 (x := (u + z).natAbs); omega
        iterate 3 refine mj_T.pl rfl rfl rfl rfl ?_
        rw [h0] at hg' ⊢
        exact mj_T.ret rfl rfl rfl ⟨g', hg', rfl⟩
    iterate 2 refine mj_T.pl rfl rfl rfl rfl ?_
    refine mj_T.if0 rfl ⟨by omega, by omega⟩ (fun hc16 => ?_) (fun hc16 => ?_)
    · simp only [jc, Bool.not_eq_true', decide_eq_false_iff_not] at hc16
      have hu0 : u ≠ 0 := fun h => hc16 (by rw [h]; rfl)
      iterate 3 refine mj_T.pl rfl rfl rfl rfl ?_
      refine mj_T.icmp rfl ⟨by omega, by omega⟩ ⟨by omega, by omega⟩ (fun hc37 => ?_) (fun hc37 => ?_)
      · simp only [jc, Bool.not_eq_true', decide_eq_false_iff_not] at hc37
        -- unlike signs
        have hopp : (0 < u ∧ z < 0) ∨ (u < 0 ∧ 0 < z) := by
          rcases Int.lt_trichotomy u 0 with h1 | h1 | h1
          · rcases Int.lt_trichotomy z 0 with h2 | h2 | h2
            · exact absurd ((jsg_neg h1).trans (jsg_neg h2).symm) hc37
            · exact absurd h2 hz
            · exact Or.inr ⟨h1, h2⟩
          · exact absurd h1 hu0
          · rcases Int.lt_trichotomy z 0 with h2 | h2 | h2
            · exact Or.inl ⟨h1, h2⟩
            · exact absurd h2 hz
            · exact absurd ((jsg_pos h1).trans (jsg_pos h2).symm) hc37
        iterate 2 refine mj_T.pl rfl rfl rfl rfl ?_
        refine mj_T.call (ins := .invokevirtual 35) rfl rfl (Nat.le_of_ble_eq_true rfl) (Nat.le_of_ble_eq_true rfl) rfl rfl (jw_isLess (D := D) (x := u.natAbs) (y := w.natAbs) hn hm hu hw hg hq) (fun v h' hq' => ?_) (fun i h' hq' => by cases hq')
        cases hq'
        refine mj_T.if0 rfl ⟨by split <;> omega, by split <;> omega⟩ (fun hc53 => ?_) (fun hc53 => ?_)
        · simp only [jc, decide_eq_true_eq] at hc53
          have hle : ¬ u.natAbs < w.natAbs := fun h => by rw [if_pos h] at hc53; omega
          iterate 3 refine mj_T.pl rfl rfl rfl rfl ?_
          refine mj_T.call (ins := .invokevirtual 39) rfl rfl (Nat.le_of_ble_eq_true rfl) (Nat.le_of_ble_eq_true rfl) rfl rfl (jw_differB (D := D) (x := u.natAbs) (y := w.natAbs) (z := (u + z).natAbs) hn hm (by omega) hu hu hw hg hq) (fun v h' hq' => ?_) (fun i h' hq' => by obtain ⟨_, _, hq'⟩ := hq'; cases hq')
          obtain ⟨g', hg', hq'⟩ := hq'
          cases hq'
          exact fin g' _ hg' hsu (fun h0 => by
            rcases hopp with ⟨a, b⟩ | ⟨a, b⟩
            · rw [jsg_pos a, jsg_pos (by omega)]
            · rw [jsg_neg a, jsg_neg (by omega)])
        · simp only [jc, decide_eq_false_iff_not] at hc53
          have hlt : u.natAbs < w.natAbs := Decidable.byContradiction fun h => by rw [if_neg h] at hc53; exact hc53 rfl
          iterate 3 refine mj_T.pl rfl rfl rfl rfl ?_
          refine mj_T.call (ins := .invokevirtual 39) rfl rfl (Nat.le_of_ble_eq_true rfl) (Nat.le_of_ble_eq_true rfl) rfl rfl (jw_differA (D := D) (x := w.natAbs) (y := u.natAbs) (z := (u + z).natAbs) hn hm (by omega) hwn hw hu hg hq) (fun v h' hq' => ?_) (fun i h' hq' => by obtain ⟨_, _, hq'⟩ := hq'; cases hq')
          obtain ⟨g', hg', hq'⟩ := hq'
          cases hq'
          iterate 4 refine mj_T.pl rfl rfl rfl rfl ?_
          exact fin g' _ hg' ⟨by omega, by omega⟩ (fun h0 => by
            rcases hopp with ⟨a, b⟩ | ⟨a, b⟩
            · rw [jsg_neg b, jsg_neg (by omega)]
            · rw [jsg_pos b, jsg_pos (by omega)])
      · simp only [jc, Bool.not_eq_false', decide_eq_true_eq] at hc37
        have hsame : (0 < u ∧ 0 < z) ∨ (u < 0 ∧ z < 0) := by
          rcases Int.lt_trichotomy u 0 with h1 | h1 | h1
          · rcases Int.lt_trichotomy z 0 with h2 | h2 | h2
            · exact Or.inr ⟨h1, h2⟩
            · exact absurd h2 hz
            · rw [jsg_neg h1, jsg_pos h2] at hc37; omega
          · exact absurd h1 hu0
          · rcases Int.lt_trichotomy z 0 with h2 | h2 | h2
            · rw [jsg_pos h1, jsg_neg h2] at hc37; omega
            · exact absurd h2 hz
            · exact Or.inl ⟨h1, h2⟩
        have e : (u + z).natAbs = u.natAbs + w.natAbs := by omega
        iterate 2 refine mj_T.pl rfl rfl rfl rfl ?_
        refine mj_T.call (ins := .invokevirtual 32) rfl rfl (Nat.le_of_ble_eq_true rfl) (Nat.le_of_ble_eq_true rfl) rfl rfl (jw_gather (D := D) (x := u.natAbs) (y := w.natAbs) hn hm (by rw [← e]; exact hcap) hw hg hq (by omega)) (fun v h' hq' => ?_) (fun i h' hq' => by obtain ⟨_, _, hq'⟩ := hq'; cases hq')
        obtain ⟨g', hg', hq'⟩ := hq'
        cases hq'
        rw [← e] at hg' ⊢
        refine mj_T.pl rfl rfl rfl rfl ?_
        exact fin g' _ hg' hsu (fun h0 => by
          rcases hsame with ⟨a, b⟩ | ⟨a, b⟩
          · rw [jsg_pos a, jsg_pos (by omega)]
          · rw [jsg_neg a, jsg_neg (by omega)])
    · simp only [jc, Bool.not_eq_false', decide_eq_true_eq] at hc16
      have hu0 : u = 0 := by
        rcases Int.lt_trichotomy u 0 with h1 | h1 | h1
        · rw [jsg_neg h1] at hc16; omega
        · exact h1
        · rw [jsg_pos h1] at hc16; omega
      subst hu0
      rw [Int.zero_add] at hcap fin ⊢
      iterate 2 refine mj_T.pl rfl rfl rfl rfl ?_
      refine mj_T.call (ins := .invokevirtual 28) rfl rfl (Nat.le_of_ble_eq_true rfl) (Nat.le_of_ble_eq_true rfl) rfl rfl (jw_set (D := D) (s := jnl w.natAbs) (sg := jsg w) hn hm hw) (fun v h' hq' => ?_) (fun i h' hq' => by obtain ⟨_, _, hq'⟩ := hq'; cases hq')
      obtain ⟨g', hg', hq'⟩ := hq'
      cases hq'
      have e : min (jnl w.natAbs) n = jnl z.natAbs := by rw [hfw] at hcap ⊢; omega
      rw [e] at hg' ⊢
      iterate 4 refine mj_T.pl rfl rfl rfl rfl ?_
      exact fin g' _ (fun j hj => by rw [hg' j hj, hq j (by rw [hfw] at hj; exact hj), hfw]) ⟨by omega, by omega⟩ (fun _ => rfl)
  · simp only [jc, Bool.not_eq_false', decide_eq_true_eq] at hc8
    have hz : z = 0 := by
      rcases Int.lt_trichotomy z 0 with h1 | h1 | h1
      · rw [jsg_neg h1] at hc8; omega
      · exact h1
      · rw [jsg_pos h1] at hc8; omega
    subst hz
    rw [Int.add_zero]
    exact mj_T.ret rfl rfl rfl ⟨g, hg, rfl⟩
/-! Times and by a small number. -/
def jsc (x f i : Nat) : Nat := x % jB ^ i * f / jB ^ i
theorem jsc_zero (x f : Nat) : jsc x f 0 = 0 := by simp [jsc, Nat.mod_one]
theorem jsc_lt {x f i : Nat} (hf : 0 < f) : jsc x f i < f := by
  unfold jsc
  rw [Nat.div_lt_iff_lt_mul (jB_pow i), Nat.mul_comm f]
  exact Nat.mul_lt_mul_of_pos_right (Nat.mod_lt _ (jB_pow i)) hf
theorem jsc_div (x f i : Nat) : x * f / jB ^ i = x / jB ^ i * f + jsc x f i := by
  unfold jsc
  have h := jB_pow i
  have e : x * f = x % jB ^ i * f + jB ^ i * (x / jB ^ i * f) := by
    conv => lhs; rw [← Nat.div_add_mod x (jB ^ i)]
    rw [Nat.add_mul, Nat.mul_assoc, Nat.add_comm]
  conv => lhs; rw [e]
  rw [Nat.add_mul_div_left _ _ h, Nat.add_comm]
theorem jsc_limb (x f i : Nat) : jlb (x * f) i = (jlb x i * f + jsc x f i) % jB := by
  unfold jlb
  rw [jsc_div]
  generalize x / jB ^ i = a
  conv => lhs; rw [← Nat.div_add_mod a jB]
  rw [Nat.add_mul, Nat.mul_assoc, Nat.add_assoc, Nat.add_comm (jB * _), Nat.add_mul_mod_self_left]
theorem jsc_next (x f i : Nat) : jsc x f (i + 1) = (jlb x i * f + jsc x f i) / jB := by
  unfold jsc
  have h := jB_pow i
  rw [jmod, Nat.pow_succ, ← Nat.div_div_eq_div_mul]
  congr 1
  rw [Nat.add_mul, show jlb x i * jB ^ i * f = jB ^ i * (jlb x i * f) by rw [Nat.mul_comm (jlb x i), Nat.mul_assoc], Nat.add_comm, Nat.add_mul_div_left _ _ h, Nat.add_comm]
theorem jsc_grow {x f i : Nat} (hf : 0 < f) (h : i < jnl x ∨ 0 < jsc x f i) : i < jnl (x * f) := by
  rw [jnl_lt, jsc_div]
  rcases h with h | h
  · exact Nat.ne_of_gt (Nat.lt_of_lt_of_le (Nat.mul_pos (Nat.pos_of_ne_zero (jnl_lt.mp h)) hf) (Nat.le_add_right _ _))
  · exact Nat.ne_of_gt (Nat.lt_of_lt_of_le h (Nat.le_add_left _ _))
theorem jsc_end {x f i : Nat} (h1 : jnl x ≤ i) (h3 : jsc x f i = 0) : jnl (x * f) ≤ i := by
  rw [jnl_le, jsc_div, jnl_le.mp h1, h3, Nat.zero_mul]
/-- the heap of one Wide -/
abbrev jH1 (n : Nat) (s : Int) (g0 : Int32) (g : Nat → Int32) : mj_H := [.inr (8, [.ref 1, .int (jn s), .int g0]), .inl (0, n, fun j => .int (g j))]
theorem jw_scale_loop {D n x f : Nat} {g0 : Int32} {g : Nat → Int32} (hn : n < 2147483648) (hf : 0 < f) (hf2 : f ≤ 1000000000) (hcap : jnl (x * f) ≤ n) (hg : ∀ j, j < jnl x → g j = jn (jlb x j)) {Q : mj_R → Prop}
    (hend : ∀ (gi : Nat → Int32), (∀ j, j < jnl (x * f) → gi j = jn (jlb (x * f) j)) → Q (.inl none, jH1 n (jnl (x * f)) g0 gi)) :
    ∀ (d i : Nat) (gi : Nat → Int32) (l6 l7 : Option Value), i + d = n → i ≤ jnl (x * f) → (∀ j, j < i → gi j = jn (jlb (x * f) j)) → (∀ j, i ≤ j → gi j = g j) →
      mj_T D mj_m96 5 [some (.ref 0), some (.long (jl f)), none, some (.long (jl (jsc x f i))), none, some (.int (jn i)), l6, l7] [] (jH1 n ((max (jnl x) i : Nat) : Int) g0 gi) Q := by
  have hxn : jnl x ≤ jnl (x * f) := jnl_mono (Nat.le_mul_of_pos_right x hf)
  intro d
  induction d with
  | zero =>
    intro i gi l6 l7 hid hil hg1 hg2
    iterate 3 refine mj_T.pl rfl rfl rfl rfl ?_
    refine mj_T.alen rfl rfl ?_
    refine mj_T.icmp rfl ⟨by omega, by omega⟩ ⟨by omega, by omega⟩ (fun hc12 => ?_) (fun hc12 => ?_)
    · have e : i = jnl (x * f) := by omega
      subst e
      rw [show max (jnl x) (jnl (x * f)) = jnl (x * f) by omega]
      exact mj_T.ret rfl rfl rfl (hend gi hg1)
    · simp only [jc, decide_eq_false_iff_not] at hc12; omega
  | succ d ih =>
    intro i gi l6 l7 hid hil hg1 hg2
    have hcf := jsc_lt (x := x) (i := i) hf
    have hlim := jsc_limb x f i
    have hnx := jsc_next x f i
    have hx1 := jlb_lt x i
    iterate 3 refine mj_T.pl rfl rfl rfl rfl ?_
    refine mj_T.alen rfl rfl ?_
    refine mj_T.icmp rfl ⟨by omega, by omega⟩ ⟨by omega, by omega⟩ (fun hc12 => ?_) (fun hc12 => ?_)
    · simp only [jc, decide_eq_true_eq] at hc12; omega
    clear hc12
    have key : (i < jnl x ∨ 0 < jsc x f i) → mj_T D mj_m96 30 [some (.ref 0), some (.long (jl f)), none, some (.long (jl (jsc x f i))), none, some (.int (jn i)), l6, l7] [] (jH1 n ((max (jnl x) i : Nat) : Int) g0 gi) Q := by
      intro hgo
      have hnl := jsc_grow hf hgo
      have hpb : jlb x i * f ≤ 999999999 * 1000000000 := Nat.mul_le_mul (by omega) hf2
      have t4 : ∀ (gi' : Nat → Int32) (v l6' l7' : Option Value), v = some (.int (jn ((max (jnl x) (i + 1) : Nat) : Int))) → gi' = upd gi i (jn (jlb (x * f) i)) → mj_T D mj_m96 99 [some (.ref 0), some (.long (jl f)), none, some (.long (jl (jsc x f (i + 1)))), none, some (.int (jn i)), l6', l7'] (v.toList ++ [.ref 0]) (jH1 n ((max (jnl x) i : Nat) : Int) g0 gi') Q := by
        intro gi' v l6' l7' hv hgi
        subst hv
        subst hgi
        refine mj_T.pl rfl rfl rfl rfl ?_
        refine mj_T.iinc (a := i) rfl rfl ?_
        refine mj_T.pl rfl rfl rfl rfl ?_
        refine ih (i + 1) (upd gi i (jn (jlb (x * f) i))) l6' l7' (by omega) (by omega) (fun j hj => ?_) (fun j hj => ?_)
        · unfold upd
          split
          · rename_i h; rw [h]
          · exact hg1 j (by omega)
        · unfold upd
          rw [if_neg (by omega)]
          exact hg2 j (by omega)
      have t3 : ∀ p : Int, p = (jlb x i * f : Nat) → mj_T D mj_m96 53 [some (.ref 0), some (.long (jl f)), none, some (.long (jl (jsc x f i))), none, some (.int (jn i)), l6, l7] [.long (jl p)] (jH1 n ((max (jnl x) i : Nat) : Int) g0 gi) Q := by
        intro p hp
        subst hp
        refine mj_T.pl rfl rfl rfl rfl ?_
        refine mj_T.ladd rfl ?_
        rw [show ((jlb x i * f : Nat) : Int) + ((jsc x f i : Nat) : Int) = ((jlb x i * f + jsc x f i : Nat) : Int) by omega]
        iterate 6 refine mj_T.pl rfl rfl rfl rfl ?_
        refine mj_T.lrem (b := 1000000000) rfl ⟨by omega, by omega⟩ ⟨by omega, by omega⟩ (by omega) ?_
        rw [show ((jlb x i * f + jsc x f i : Nat) : Int).tmod 1000000000 = ((jlb (x * f) i : Nat) : Int) by rw [hlim]; rfl]
        refine mj_T.l2i rfl ?_
        refine mj_T.iast rfl rfl ⟨by omega, by omega⟩ ⟨by omega, by omega⟩ ?_
        iterate 2 refine mj_T.pl rfl rfl rfl rfl ?_
        refine mj_T.ldiv (b := 1000000000) rfl ⟨by omega, by omega⟩ ⟨by omega, by omega⟩ (by omega) ?_
        rw [show ((jlb x i * f + jsc x f i : Nat) : Int).tdiv 1000000000 = ((jsc x f (i + 1) : Nat) : Int) by rw [hnx]; rfl]
        iterate 5 refine mj_T.pl rfl rfl rfl rfl ?_
        refine mj_T.icmp rfl ⟨by omega, by omega⟩ ⟨by omega, by omega⟩ (fun hc85 => ?_) (fun hc85 => ?_)
        · simp only [jc, decide_eq_true_eq] at hc85
          iterate 2 refine mj_T.pl rfl rfl rfl rfl ?_
          exact t4 _ (some _) _ _ (by rw [show max (jnl x) (i + 1) = max (jnl x) i by omega]) rfl
        · simp only [jc, decide_eq_false_iff_not] at hc85
          iterate 2 refine mj_T.pl rfl rfl rfl rfl ?_
          refine mj_T.iadd (b := 1) rfl ?_
          refine mj_T.pl rfl rfl rfl rfl ?_
          exact t4 _ (some _) _ _ (by rw [show ((max (jnl x) (i + 1) : Nat) : Int) = (i : Int) + 1 by omega]) rfl
      iterate 3 refine mj_T.pl rfl rfl rfl rfl ?_
      refine mj_T.icmp rfl ⟨by omega, by omega⟩ ⟨by omega, by omega⟩ (fun hc36 => ?_) (fun hc36 => ?_)
      · simp only [jc, decide_eq_true_eq] at hc36
        refine mj_T.pl rfl rfl rfl rfl ?_
        exact t3 0 (by rw [jlb_high (show jnl x ≤ i by omega), Nat.zero_mul]; rfl)
      · simp only [jc, decide_eq_false_iff_not] at hc36
        iterate 3 refine mj_T.pl rfl rfl rfl rfl ?_
        by_cases hix : i < jnl x
        · refine mj_T.ialv rfl rfl ⟨by omega, by omega⟩ ⟨by omega, by omega⟩ ((hg2 i (Nat.le_refl i)).trans (hg i hix)) ?_
          refine mj_T.i2l rfl ⟨by omega, by omega⟩ ?_
          refine mj_T.pl rfl rfl rfl rfl ?_
          refine mj_T.lmul rfl ?_
          refine mj_T.pl rfl rfl rfl rfl ?_
          exact t3 _ (by rw [Int.natCast_mul])
        · omega
    iterate 3 refine mj_T.pl rfl rfl rfl rfl ?_
    refine mj_T.icmp rfl ⟨by omega, by omega⟩ ⟨by omega, by omega⟩ (fun hc21 => ?_) (fun hc21 => ?_)
    · simp only [jc, decide_eq_true_eq] at hc21
      exact key (by omega)
    · simp only [jc, decide_eq_false_iff_not] at hc21
      iterate 2 refine mj_T.pl rfl rfl rfl rfl ?_
      refine mj_T.lif (b := 0) rfl rfl ⟨by omega, by omega⟩ ⟨by omega, by omega⟩ (fun hc26 => ?_) (fun hc26 => ?_)
      · simp only [jc, decide_eq_true_eq] at hc26
        have e : i = jnl (x * f) := by have := jsc_end (x := x) (f := f) (i := i) (by omega) (by omega); omega
        subst e
        rw [show max (jnl x) (jnl (x * f)) = jnl (x * f) by omega]
        exact mj_T.ret rfl rfl rfl (hend gi hg1)
      · simp only [jc, decide_eq_false_iff_not] at hc26
        exact key (by omega)
theorem jw_scale {D n x f : Nat} {g0 : Int32} {g : Nat → Int32} (hn : n < 2147483648) (hf : 0 < f) (hf2 : f ≤ 1000000000) (hcap : jnl (x * f) ≤ n) (hg : ∀ j, j < jnl x → g j = jn (jlb x j)) :
    mj_Ok (D + 1) 96 [.ref 0, .long (jl f)] (jH1 n (jnl x) g0 g) (fun r => ∃ g' : Nat → Int32, (∀ j, j < jnl (x * f) → g' j = jn (jlb (x * f) j)) ∧ r = (.inl none, jH1 n (jnl (x * f)) g0 g')) := by
  refine mj_Ok.of (M := mj_m96) rfl rfl rfl ?_
  iterate 4 refine mj_T.pl rfl rfl rfl rfl ?_
  refine mj_T.eq (jw_scale_loop (x := x) (f := f) (g := g) hn hf hf2 hcap hg (fun gi hgi => ⟨gi, hgi, rfl⟩) n 0 g none none (by omega) (Nat.zero_le _) (fun j hj => by omega) (fun j _ => rfl)) rfl ?_ rfl ?_
  · rw [jsc_zero]; rfl
  · rw [Nat.max_eq_left (Nat.zero_le _)]
/-! Wide: cut. -/
theorem jcut_step (x f i : Nat) : x / jB ^ i = (x / jB ^ (i + 1) / f * jB) * f + (x / jB ^ (i + 1) % f * jB + jlb x i) := by
  conv => lhs; rw [jdiv x i, ← Nat.div_add_mod (x / jB ^ (i + 1)) f]
  rw [Nat.add_mul, Nat.add_assoc]
  congr 1
  simp only [Nat.mul_comm, Nat.mul_left_comm]
theorem jcut_limb {x f i : Nat} (hf : 0 < f) : jlb (x / f) i = (x / jB ^ (i + 1) % f * jB + jlb x i) / f := by
  have h1 : (x / jB ^ (i + 1) % f * jB + jlb x i) / f < jB := by
    rw [Nat.div_lt_iff_lt_mul hf]
    have h2 := Nat.mod_lt (x / jB ^ (i + 1)) hf
    have h3 : jlb x i < jB := jlb_lt x i
    exact Nat.lt_of_lt_of_le (Nat.add_lt_add_left h3 _) (by rw [Nat.mul_comm jB, ← Nat.succ_mul]; exact Nat.mul_le_mul_right _ h2)
  unfold jlb at h1 ⊢
  rw [Nat.div_div_eq_div_mul, Nat.mul_comm f, ← Nat.div_div_eq_div_mul]
  conv => lhs; rw [jcut_step x f i]
  rw [Nat.add_comm, Nat.add_mul_div_right _ _ hf, Nat.add_mul_mod_self_right]
  exact Nat.mod_eq_of_lt h1
theorem jcut_rest {x f i : Nat} (hf : 0 < f) : x / jB ^ i % f = (x / jB ^ (i + 1) % f * jB + jlb x i) % f := by
  conv => lhs; rw [jcut_step x f i]
  rw [Nat.add_comm, Nat.add_mul_mod_self_right]
/-- the limbs' number above k, if there is one -/
def jup (z k : Nat) : Nat := if k < jnl z then jnl z else 0
theorem jup_same {z k : Nat} (h : jup z (k + 1) ≠ 0 ∨ jlb z k = 0) : jup z k = jup z (k + 1) := by
  unfold jup at h ⊢
  by_cases h1 : k + 1 < jnl z
  · rw [if_pos h1, if_pos (by omega)]
  · rw [if_neg h1] at h ⊢
    rw [if_neg]
    intro h2
    rcases h with h | h
    · exact h rfl
    · exact jlb_top (x := z) (j := k) (by omega) h
theorem jup_new {z k : Nat} (h : jup z (k + 1) = 0) (hl : jlb z k ≠ 0) : jup z k = k + 1 := by
  unfold jup at h ⊢
  have h1 : ¬ k + 1 < jnl z := fun q => by rw [if_pos q] at h; omega
  have h2 : k < jnl z := Decidable.byContradiction fun q => hl (jlb_high (by omega))
  rw [if_pos h2]
  omega
theorem jup_zero (z : Nat) : jup z 0 = jnl z := by
  unfold jup
  split <;> omega
theorem jup_le (z k : Nat) : jup z k ≤ jnl z := by
  unfold jup
  split <;> omega
theorem jw_cut_loop {D n x f : Nat} {g0 : Int32} {g : Nat → Int32} (hn : n < 2147483648) (hf : 0 < f) (hf2 : f ≤ 1000000000) (hcap : jnl x ≤ n) (hg : ∀ j, j < jnl x → g j = jn (jlb x j)) {Q : mj_R → Prop}
    (hend : ∀ (gi : Nat → Int32) (l7 l8 : Option Value) (l6 : Int), (∀ j, j < jnl x → gi j = jn (jlb (x / f) j)) → mj_T D mj_m97 97 [some (.ref 0), some (.long (jl f)), none, some (.long (jl (x % f : Nat))), none, some (.int (jn (jnl (x / f)))), some (.int (jn l6)), l7, l8] [] (jH1 n (jnl x) g0 gi) Q) :
    ∀ (k : Nat) (v : Int) (gi : Nat → Int32) (l7 l8 : Option Value), v = (k : Int) - 1 → k ≤ jnl x → (∀ j, k ≤ j → j < jnl x → gi j = jn (jlb (x / f) j)) → (∀ j, j < k → gi j = g j) →
      mj_T D mj_m97 21 [some (.ref 0), some (.long (jl f)), none, some (.long (jl (x / jB ^ k % f : Nat))), none, some (.int (jn (jup (x / f) k))), some (.int (jn v)), l7, l8] [] (jH1 n (jnl x) g0 gi) Q := by
  intro k
  have hzx : jnl (x / f) ≤ jnl x := jnl_mono (Nat.div_le_self _ _)
  induction k with
  | zero =>
    intro v gi l7 l8 hv hk hg1 hg2
    refine mj_T.pl rfl rfl rfl rfl ?_
    refine mj_T.if0 rfl ⟨by omega, by omega⟩ (fun hc23 => ?_) (fun hc23 => ?_)
    · rw [jup_zero, Nat.pow_zero, Nat.div_one]
      exact hend gi l7 l8 v (fun j hj => hg1 j (Nat.zero_le _) hj)
    · simp only [jc, decide_eq_false_iff_not] at hc23; omega
  | succ k ih =>
    intro v gi l7 l8 hv hk hg1 hg2
    have ev : v = k := by omega
    subst ev
    have hx1 := jlb_lt x k
    have hz1 := jlb_lt (x / f) k
    have hr := Nat.mod_lt (x / jB ^ (k + 1)) hf
    have hlim := jcut_limb (x := x) (f := f) (i := k) hf
    have hrest := jcut_rest (x := x) (f := f) (i := k) hf
    have hul := jup_le (x / f) (k + 1)
    refine mj_T.pl rfl rfl rfl rfl ?_
    refine mj_T.if0 rfl ⟨by omega, by omega⟩ (fun hc23 => ?_) (fun hc23 => ?_)
    · simp only [jc, decide_eq_true_eq] at hc23; omega
    · iterate 2 refine mj_T.pl rfl rfl rfl rfl ?_
      refine mj_T.lif (b := 0) rfl rfl ⟨by omega, by omega⟩ ⟨by omega, by omega⟩ (fun hc28 => ?_) (fun hc28 => ?_)
      · simp only [jc, decide_eq_true_eq] at hc28; omega
      · have t3 : ∀ (gi' : Nat → Int32) (l7 l8 : Option Value), gi' = upd gi k (jn (jlb (x / f) k)) → mj_T D mj_m97 89 [some (.ref 0), some (.long (jl f)), none, some (.long (jl (x / jB ^ k % f : Nat))), none, some (.int (jn (jup (x / f) (k + 1)))), some (.int (jn k)), l7, l8] [.int (jn (jup (x / f) k))] (jH1 n (jnl x) g0 gi') Q := by
          intro gi' l7 l8 hgi
          subst hgi
          refine mj_T.pl rfl rfl rfl rfl ?_
          refine mj_T.iinc (a := k) rfl rfl ?_
          refine mj_T.pl rfl rfl rfl rfl ?_
          refine ih ((k : Int) + -1) (upd gi k (jn (jlb (x / f) k))) l7 l8 (by omega) (by omega) (fun j hj1 hj2 => ?_) (fun j hj => ?_)
          · unfold upd
            split
            · rename_i h; rw [h]
            · exact hg1 j (by omega) hj2
          · unfold upd
            rw [if_neg (by omega)]
            exact hg2 j (by omega)
        generalize hR : x / jB ^ (k + 1) % f = R at *
        have hlim : jlb (x / f) k = (R * 1000000000 + jlb x k) / f := hlim
        have hrest : x / jB ^ k % f = (R * 1000000000 + jlb x k) % f := hrest
        iterate 2 refine mj_T.pl rfl rfl rfl rfl ?_
        refine mj_T.lmul (b := 1000000000) rfl ?_
        iterate 3 refine mj_T.pl rfl rfl rfl rfl ?_
        refine mj_T.ialv rfl rfl ⟨by omega, by omega⟩ ⟨by omega, by omega⟩ ((hg2 k (by omega)).trans (hg k (by omega))) ?_
        refine mj_T.i2l rfl ⟨by omega, by omega⟩ ?_
        refine mj_T.ladd rfl ?_
        rw [show (R : Int) * 1000000000 + ((jlb x k : Nat) : Int) = ((R * 1000000000 + jlb x k : Nat) : Int) by rw [Int.natCast_add, Int.natCast_mul]; rfl]
        have hb2 : R * 1000000000 + jlb x k ≤ 1000000000000000000 := by omega
        iterate 6 refine mj_T.pl rfl rfl rfl rfl ?_
        refine mj_T.ldiv rfl ⟨by omega, by omega⟩ ⟨by omega, by omega⟩ (by omega) ?_
        rw [show ((R * 1000000000 + jlb x k : Nat) : Int).tdiv (f : Int) = ((jlb (x / f) k : Nat) : Int) by rw [hlim]; rfl]
        refine mj_T.l2i rfl ?_
        refine mj_T.iast rfl rfl ⟨by omega, by omega⟩ ⟨by omega, by omega⟩ ?_
        iterate 2 refine mj_T.pl rfl rfl rfl rfl ?_
        refine mj_T.lrem rfl ⟨by omega, by omega⟩ ⟨by omega, by omega⟩ (by omega) ?_
        rw [show ((R * 1000000000 + jlb x k : Nat) : Int).tmod (f : Int) = ((x / jB ^ k % f : Nat) : Int) by rw [hrest]; rfl]
        iterate 2 refine mj_T.pl rfl rfl rfl rfl ?_
        refine mj_T.if0 rfl ⟨by omega, by omega⟩ (fun hc67 => ?_) (fun hc67 => ?_)
        · simp only [jc, Bool.not_eq_true', decide_eq_false_iff_not] at hc67
          iterate 1 refine mj_T.pl rfl rfl rfl rfl ?_
          have e := jup_same (z := x / f) (k := k) (Or.inl (by omega))
          have t := t3 _ (some (.long (jl (R * 1000000000 + jlb x k : Nat)))) none rfl
          rw [e] at t
          exact t
        · simp only [jc, Bool.not_eq_false', decide_eq_true_eq] at hc67
          iterate 3 refine mj_T.pl rfl rfl rfl rfl ?_
          refine mj_T.ialv (z := (jlb (x / f) k : Nat)) rfl rfl ⟨by omega, by omega⟩ ⟨by omega, by omega⟩ (if_pos rfl) ?_
          refine mj_T.if0 rfl ⟨by omega, by omega⟩ (fun hc77 => ?_) (fun hc77 => ?_)
          · simp only [jc, decide_eq_true_eq] at hc77
            iterate 1 refine mj_T.pl rfl rfl rfl rfl ?_
            have e := jup_same (z := x / f) (k := k) (Or.inr (by omega))
            have t := t3 _ (some (.long (jl (R * 1000000000 + jlb x k : Nat)))) none rfl
            rw [e] at t
            exact t
          · simp only [jc, decide_eq_false_iff_not] at hc77
            iterate 2 refine mj_T.pl rfl rfl rfl rfl ?_
            refine mj_T.iadd (b := 1) rfl ?_
            refine mj_T.pl rfl rfl rfl rfl ?_
            have e := jup_new (z := x / f) (k := k) (by omega) (by omega)
            have t := t3 _ (some (.long (jl (R * 1000000000 + jlb x k : Nat)))) none rfl
            rw [e] at t
            exact t
theorem jw_cut {D n x f : Nat} {s : Int} {g : Nat → Int32} (hn : n < 2147483648) (hf : 0 < f) (hf2 : f ≤ 1000000000) (hcap : jnl x ≤ n) (hg : ∀ j, j < jnl x → g j = jn (jlb x j)) :
    mj_Ok (D + 1) 97 [.ref 0, .long (jl f)] (jH1 n (jnl x) (jn s) g) (fun r => ∃ g' : Nat → Int32, (∀ j, j < jnl x → g' j = jn (jlb (x / f) j)) ∧ r = (.inl none, jH1 n (jnl (x / f)) (jn (if x / f = 0 then 0 else s)) g')) := by
  have hzx : jnl (x / f) ≤ jnl x := jnl_mono (Nat.div_le_self _ _)
  refine mj_Ok.of (M := mj_m97) rfl rfl rfl ?_
  iterate 8 refine mj_T.pl rfl rfl rfl rfl ?_
  refine mj_T.alen rfl rfl ?_
  refine mj_T.imin rfl rfl (Nat.le_of_ble_eq_true rfl) ⟨by omega, by omega⟩ ⟨by omega, by omega⟩ ?_
  rw [show min (jnl x : Int) (n : Int) = (jnl x : Nat) by omega]
  iterate 1 refine mj_T.pl rfl rfl rfl rfl ?_
  refine mj_T.isub (b := 1) rfl ?_
  iterate 1 refine mj_T.pl rfl rfl rfl rfl ?_
  refine mj_T.eq (jw_cut_loop (x := x) (f := f) (g := g) hn hf hf2 hcap hg (fun gi l7 l8 l6 hgi => ?_) (jnl x) _ g none none rfl (Nat.le_refl _) (fun j hj1 hj2 => by omega) (fun j _ => rfl)) rfl ?_ rfl rfl
  · iterate 6 refine mj_T.pl rfl rfl rfl rfl ?_
    refine mj_T.if0 rfl ⟨by omega, by omega⟩ (fun hc108 => ?_) (fun hc108 => ?_)
    · simp only [jc, Bool.not_eq_true', decide_eq_false_iff_not] at hc108
      iterate 3 refine mj_T.pl rfl rfl rfl rfl ?_
      refine mj_T.ret rfl rfl rfl ⟨gi, hgi, ?_⟩
      rw [if_neg (fun h => hc108 (by rw [h]; exact congrArg Int.ofNat jnl_zero))]
      rfl
    · simp only [jc, Bool.not_eq_false', decide_eq_true_eq] at hc108
      have h0 : x / f = 0 := jnl_eq0.mp (by omega)
      iterate 3 refine mj_T.pl rfl rfl rfl rfl ?_
      refine mj_T.ret rfl rfl rfl ⟨gi, hgi, ?_⟩
      rw [if_pos h0]
      rfl
  · rw [jnl_le.mp (Nat.le_refl (jnl x)), Nat.zero_mod]
    rw [show jup (x / f) (jnl x) = 0 by unfold jup; rw [if_neg (by omega)]]
    rfl
/-! Products by limbs: the columns. -/
def jsm (f : Nat → Nat) : Nat → Nat
  | 0 => 0
  | n + 1 => jsm f n + f n
theorem jsm_head (f : Nat → Nat) : ∀ n, jsm f (n + 1) = f 0 + jsm (fun i => f (i + 1)) n
  | 0 => by simp [jsm]
  | n + 1 => by
    show jsm f (n + 1) + f (n + 1) = _
    rw [jsm_head f n]
    simp only [jsm]
    omega
theorem jsm_congr {f g : Nat → Nat} : ∀ {n : Nat}, (∀ i, i < n → f i = g i) → jsm f n = jsm g n
  | 0, _ => rfl
  | n + 1, h => by
    simp only [jsm]
    rw [jsm_congr (fun i hi => h i (by omega)), h n (by omega)]
theorem jsm_add (f g : Nat → Nat) : ∀ n, jsm (fun i => f i + g i) n = jsm f n + jsm g n
  | 0 => rfl
  | n + 1 => by simp only [jsm]; rw [jsm_add f g n]; omega
theorem jsm_mul (c : Nat) (f : Nat → Nat) : ∀ n, jsm (fun i => c * f i) n = c * jsm f n
  | 0 => rfl
  | n + 1 => by simp only [jsm]; rw [jsm_mul c f n, Nat.mul_add]
theorem jsm_flat {f : Nat → Nat} {lo : Nat} : ∀ {d : Nat}, (∀ i, lo ≤ i → i < lo + d → f i = 0) → jsm f (lo + d) = jsm f lo
  | 0, _ => rfl
  | d + 1, h => by
    show jsm f (lo + d) + f (lo + d) = _
    rw [h (lo + d) (by omega) (by omega), jsm_flat (fun i h1 h2 => h i h1 (by omega))]
    rfl
theorem jsm_flat' {f : Nat → Nat} {lo hi : Nat} (hl : lo ≤ hi) (h : ∀ i, lo ≤ i → i < hi → f i = 0) : jsm f hi = jsm f lo := by
  obtain ⟨d, rfl⟩ : ∃ d, hi = lo + d := ⟨hi - lo, by omega⟩
  exact jsm_flat h
theorem jsm_low (b : Nat) : ∀ k, jsm (fun j => jlb b j * jB ^ j) k = b % jB ^ k
  | 0 => by simp [jsm, Nat.mod_one]
  | k + 1 => by
    simp only [jsm]
    rw [jsm_low b k, jmod, Nat.add_comm]
theorem jlb_succ (a i : Nat) : jlb a (i + 1) = jlb (a / jB) i := by
  unfold jlb
  rw [Nat.pow_succ, Nat.mul_comm, ← Nat.div_div_eq_div_mul]
/-- a column -/
def jco (a b k : Nat) : Nat := jsm (fun i => jlb a i * jlb b (k - i)) (k + 1)
theorem jco_zero (a b : Nat) : jco a b 0 = jlb a 0 * jlb b 0 := by simp [jco, jsm]
theorem jco_succ (a b k : Nat) : jco a b (k + 1) = jlb a 0 * jlb b (k + 1) + jco (a / jB) b k := by
  unfold jco
  rw [jsm_head]
  congr 1
  apply jsm_congr
  intro i _
  rw [jlb_succ, Nat.add_sub_add_right]
def jP (a b k : Nat) : Nat := jsm (fun j => jco a b j * jB ^ j) k
theorem jP_rec (a b k : Nat) : jP a b (k + 1) = jlb a 0 * (b % jB ^ (k + 1)) + jB * jP (a / jB) b k := by
  unfold jP
  rw [← jsm_low b (k + 1), jsm_head (fun j => jco a b j * jB ^ j), jsm_head (fun j => jlb b j * jB ^ j), Nat.mul_add, jco_zero]
  simp only [Nat.pow_zero, Nat.mul_one]
  rw [Nat.add_assoc]
  congr 1
  rw [← jsm_mul, ← jsm_mul, ← jsm_add]
  apply jsm_congr
  intro i _
  rw [jco_succ, Nat.add_mul, Nat.pow_succ]
  congr 1
  · rw [Nat.mul_assoc]
  · simp only [Nat.mul_comm, Nat.mul_left_comm, Nat.mul_assoc]
theorem jlb_z (a : Nat) : jlb a 0 = a % jB := by simp [jlb]
theorem jP_mod : ∀ (k a b : Nat), jP a b k % jB ^ k = a * b % jB ^ k
  | 0, a, b => by simp [Nat.mod_one]
  | k + 1, a, b => by
    rw [jP_rec]
    have h1 := jP_mod k (a / jB) b
    have e1 : jB * jP (a / jB) b k % jB ^ (k + 1) = jB * (a / jB * b) % jB ^ (k + 1) := by
      rw [Nat.pow_succ, Nat.mul_comm (jB ^ k), Nat.mul_mod_mul_left, Nat.mul_mod_mul_left, h1]
    rw [Nat.add_mod, e1, Nat.mul_mod_mod, ← Nat.add_mod]
    congr 1
    conv => rhs; rw [← Nat.div_add_mod a jB]
    rw [jlb_z, Nat.add_mul, Nat.mul_assoc, Nat.add_comm]
/-- what is carried into a column -/
def jcc (a b k : Nat) : Nat := jP a b k / jB ^ k
theorem jcc_zero (a b : Nat) : jcc a b 0 = 0 := by simp [jcc, jP, jsm]
theorem jcc_div (a b k : Nat) : jP a b (k + 1) / jB ^ k = jcc a b k + jco a b k := by
  show (jP a b k + jco a b k * jB ^ k) / jB ^ k = _
  rw [Nat.add_mul_div_right _ _ (jB_pow k)]
  rfl
theorem jcc_next (a b k : Nat) : jcc a b (k + 1) = (jcc a b k + jco a b k) / jB := by
  rw [← jcc_div]
  unfold jcc
  rw [Nat.pow_succ, Nat.div_div_eq_div_mul]
theorem jcc_limb (a b k : Nat) : jlb (a * b) k = (jcc a b k + jco a b k) % jB := by
  have h1 : ∀ x, x % jB ^ (k + 1) / jB ^ k = x / jB ^ k % jB := by
    intro x
    rw [Nat.pow_succ, Nat.mod_mul_right_div_self]
  have h2 := jP_mod (k + 1) a b
  rw [← jcc_div]
  unfold jlb
  rw [← h1, ← h1, h2]
theorem jsm_le {f : Nat → Nat} {c : Nat} (h : ∀ i, f i ≤ c) : ∀ n, jsm f n ≤ n * c
  | 0 => by simp [jsm]
  | n + 1 => by
    have h1 := jsm_le h n
    have h2 := h n
    simp only [jsm]
    rw [Nat.add_mul]
    omega
theorem jmul_le (a b i j : Nat) : jlb a i * jlb b j ≤ 999999999 * 999999999 := Nat.mul_le_mul (by have := jlb_lt a i; omega) (by have := jlb_lt b j; omega)
theorem jcc_le (a b : Nat) : ∀ k, jcc a b k ≤ k * 1000000000
  | 0 => by rw [jcc_zero]; omega
  | k + 1 => by
    rw [jcc_next]
    have h1 := jcc_le a b k
    have h2 : jco a b k ≤ (k + 1) * (999999999 * 999999999) := jsm_le (fun i => jmul_le a b i (k - i)) (k + 1)
    exact Nat.div_le_of_le_mul (by show _ ≤ 1000000000 * _; omega)
theorem jnl_mul (a b : Nat) : jnl (a * b) ≤ jnl a + jnl b := by
  rw [jnl_le_lt, Nat.pow_add]
  by_cases h : a = 0
  · subst h; rw [Nat.zero_mul]; exact Nat.mul_pos (jB_pow _) (jB_pow _)
  · exact Nat.mul_lt_mul_of_lt_of_le (jnl_le_lt.mp (Nat.le_refl _)) (Nat.le_of_lt (jnl_le_lt.mp (Nat.le_refl _))) (jB_pow _)
/-! Wide: setProduct. -/
/-- the heap of three Wides -/
abbrev jH3 (n m1 m2 : Nat) (s s1 s2 : Int) (g0 : Int32) (t1 t2 : Int) (g q1 q2 : Nat → Int32) : mj_H := [.inr (8, [.ref 1, .int (jn s), .int g0]), .inl (0, n, fun j => .int (g j)), .inr (8, [.ref 3, .int (jn s1), .int (jn t1)]), .inl (0, m1, fun j => .int (q1 j)), .inr (8, [.ref 5, .int (jn s2), .int (jn t2)]), .inl (0, m2, fun j => .int (q2 j))]
abbrev jL3 (la lb cols : Int) (carry : Int) (k : Int) (l : List (Option Value)) : mj_L := some (.ref 0) :: some (.ref 2) :: some (.ref 4) :: some (.int (jn la)) :: some (.int (jn lb)) :: some (.int (jn cols)) :: some (.long (jl carry)) :: none :: some (.int (jn k)) :: l
theorem jw_prod_in {D n m1 m2 a b k : Nat} {s : Int} {g0 : Int32} {t1 t2 : Int} {g q1 q2 : Nat → Int32} (hn : n ≤ 1000) (hm1 : m1 ≤ 1000) (hm2 : m2 ≤ 1000) (ha : jnl a ≤ m1) (hb : jnl b ≤ m2) (hq1 : ∀ j, j < jnl a → q1 j = jn (jlb a j)) (hq2 : ∀ j, j < jnl b → q2 j = jn (jlb b j)) {cols : Nat} (hk : k < cols) (hcols : cols ≤ n) {last : Int} (hlast : last = min (k : Int) (jnl a - 1)) {Q : mj_R → Prop}
    (hend : ∀ (low cnt i : Nat), low + cnt * 8000000000000000000 = jcc a b k + jco a b k → cnt ≤ 1000 → low < 8000000000000000000 → mj_T D mj_m95 152 (jL3 (jnl a) (jnl b) cols (jcc a b k) k [some (.long (jl low)), none, some (.long (jl (cnt * 8000000000))), none, some (.int (jn last)), some (.int (jn i))]) [] (jH3 n m1 m2 s (jnl a) (jnl b) g0 t1 t2 g q1 q2) Q) :
    ∀ (d i low cnt : Nat), (d : Int) = last + 1 - i → (k + 1 ≤ i + jnl b) → i ≤ k + 1 → low + cnt * 8000000000000000000 = jcc a b k + jsm (fun i => jlb a i * jlb b (k - i)) i → cnt ≤ i → low < 8000000000000000000 →
      mj_T D mj_m95 89 (jL3 (jnl a) (jnl b) cols (jcc a b k) k [some (.long (jl low)), none, some (.long (jl (cnt * 8000000000))), none, some (.int (jn last)), some (.int (jn i))]) [] (jH3 n m1 m2 s (jnl a) (jnl b) g0 t1 t2 g q1 q2) Q := by
  intro d
  induction d with
  | zero =>
    intro i low cnt hd hib hik hlow hcnt hl8
    iterate 2 refine mj_T.pl rfl rfl rfl rfl ?_
    refine mj_T.icmp rfl ⟨by omega, by omega⟩ ⟨by omega, by omega⟩ (fun hc93 => ?_) (fun hc93 => ?_)
    · refine hend low cnt i ?_ (by omega) hl8
      rw [hlow]
      congr 1
      unfold jco
      symm
      refine jsm_flat' hik (fun j h1 h2 => ?_)
      rw [jlb_high (show jnl a ≤ j by omega), Nat.zero_mul]
    · simp only [jc, decide_eq_false_iff_not] at hc93; omega
  | succ d ih =>
    intro i low cnt hd hib hik hlow hcnt hl8
    have hp := jmul_le a b i (k - i)
    have hsm : jsm (fun i => jlb a i * jlb b (k - i)) (i + 1) = jsm (fun i => jlb a i * jlb b (k - i)) i + jlb a i * jlb b (k - i) := rfl
    have hx1 := jlb_lt a i
    have hy1 := jlb_lt b (k - i)
    generalize hS : jsm (fun i => jlb a i * jlb b (k - i)) i = S at *
    iterate 2 refine mj_T.pl rfl rfl rfl rfl ?_
    refine mj_T.icmp rfl ⟨by omega, by omega⟩ ⟨by omega, by omega⟩ (fun hc93 => ?_) (fun hc93 => ?_)
    · simp only [jc, decide_eq_true_eq] at hc93; omega
    · iterate 4 refine mj_T.pl rfl rfl rfl rfl ?_
      refine mj_T.ialv rfl rfl ⟨by omega, by omega⟩ ⟨by omega, by omega⟩ (hq1 i (by omega)) ?_
      refine mj_T.i2l rfl ⟨by omega, by omega⟩ ?_
      iterate 4 refine mj_T.pl rfl rfl rfl rfl ?_
      refine mj_T.isub rfl ?_
      rw [show (k : Int) - (i : Int) = ((k - i : Nat) : Int) by omega]
      refine mj_T.ialv rfl rfl ⟨by omega, by omega⟩ ⟨by omega, by omega⟩ (hq2 (k - i) (by omega)) ?_
      refine mj_T.i2l rfl ⟨by omega, by omega⟩ ?_
      refine mj_T.lmul rfl ?_
      refine mj_T.ladd rfl ?_
      rw [show (low : Int) + ((jlb a i : Nat) : Int) * ((jlb b (k - i) : Nat) : Int) = ((low + jlb a i * jlb b (k - i) : Nat) : Int) by rw [Int.natCast_add, Int.natCast_mul]]
      generalize hpp : jlb a i * jlb b (k - i) = p at *
      iterate 3 refine mj_T.pl rfl rfl rfl rfl ?_
      refine mj_T.lif (b := 8000000000000000000) rfl rfl ⟨by omega, by omega⟩ ⟨by omega, by omega⟩ (fun hc126 => ?_) (fun hc126 => ?_)
      · simp only [jc, decide_eq_true_eq] at hc126
        refine mj_T.iinc (a := i) rfl rfl ?_
        refine mj_T.pl rfl rfl rfl rfl ?_
        exact ih (i + 1) (low + p) cnt (by omega) (by omega) (by omega) (by omega) (by omega) (by omega)
      · simp only [jc, decide_eq_false_iff_not] at hc126
        iterate 2 refine mj_T.pl rfl rfl rfl rfl ?_
        refine mj_T.lsub (b := 8000000000000000000) rfl ?_
        iterate 3 refine mj_T.pl rfl rfl rfl rfl ?_
        refine mj_T.ladd (b := 8000000000) rfl ?_
        iterate 1 refine mj_T.pl rfl rfl rfl rfl ?_
        refine mj_T.iinc (a := i) rfl rfl ?_
        refine mj_T.pl rfl rfl rfl rfl ?_
        rw [show ((low + p : Nat) : Int) - 8000000000000000000 = ((low + p - 8000000000000000000 : Nat) : Int) by omega, show (cnt : Int) * 8000000000 + 8000000000 = ((cnt + 1 : Nat) : Int) * 8000000000 by omega]
        exact ih (i + 1) (low + p - 8000000000000000000) (cnt + 1) (by omega) (by omega) (by omega) (by omega) (by omega) (by omega)
theorem jw_prod_out {D n m1 m2 a b : Nat} {g0 : Int32} {t1 t2 : Int} {g q1 q2 : Nat → Int32} (hn : n ≤ 1000) (hm1 : m1 ≤ 1000) (hm2 : m2 ≤ 1000) (ha : jnl a ≤ m1) (hb : jnl b ≤ m2) (hq1 : ∀ j, j < jnl a → q1 j = jn (jlb a j)) (hq2 : ∀ j, j < jnl b → q2 j = jn (jlb b j)) {cols : Nat} (hcols : cols ≤ n) (hab : cols ≤ jnl a + jnl b) {Q : mj_R → Prop}
    (hend : ∀ (gi : Nat → Int32) (l : List (Option Value)), l.length = 6 → (∀ j, j < cols → gi j = jn (jlb (a * b) j)) → mj_T D mj_m95 208 (jL3 (jnl a) (jnl b) cols (jcc a b cols) cols l) [] (jH3 n m1 m2 (jnl (a * b % jB ^ cols)) (jnl a) (jnl b) g0 t1 t2 gi q1 q2) Q) :
    ∀ (d k : Nat) (gi : Nat → Int32) (l9 l10 l11 l12 l13 l14 : Option Value), k + d = cols → (∀ j, j < k → gi j = jn (jlb (a * b) j)) →
      mj_T D mj_m95 52 (jL3 (jnl a) (jnl b) cols (jcc a b k) k [l9, l10, l11, l12, l13, l14]) [] (jH3 n m1 m2 (jnl (a * b % jB ^ k)) (jnl a) (jnl b) g0 t1 t2 gi q1 q2) Q := by
  intro d
  induction d with
  | zero =>
    intro k gi l9 l10 l11 l12 l13 l14 hd hgi
    iterate 2 refine mj_T.pl rfl rfl rfl rfl ?_
    refine mj_T.icmp rfl ⟨by omega, by omega⟩ ⟨by omega, by omega⟩ (fun hc56 => ?_) (fun hc56 => ?_)
    · have e : k = cols := by omega
      subst e
      exact hend gi [l9, l10, l11, l12, l13, l14] rfl hgi
    · simp only [jc, decide_eq_false_iff_not] at hc56; omega
  | succ d ih =>
    intro k gi l9 l10 l11 l12 l13 l14 hd hgi
    have hcc := jcc_le a b k
    have hlim := jcc_limb a b k
    have hnx := jcc_next a b k
    have hz1 := jlb_lt (a * b) k
    have hml := jnl_mod_le (a * b) k
    iterate 2 refine mj_T.pl rfl rfl rfl rfl ?_
    refine mj_T.icmp rfl ⟨by omega, by omega⟩ ⟨by omega, by omega⟩ (fun hc56 => ?_) (fun hc56 => ?_)
    · simp only [jc, decide_eq_true_eq] at hc56; omega
    · iterate 7 refine mj_T.pl rfl rfl rfl rfl ?_
      refine mj_T.isub (b := 1) rfl ?_
      refine mj_T.imin rfl rfl (Nat.le_of_ble_eq_true rfl) ⟨by omega, by omega⟩ ⟨by omega, by omega⟩ ?_
      iterate 4 refine mj_T.pl rfl rfl rfl rfl ?_
      refine mj_T.isub rfl ?_
      refine mj_T.pl rfl rfl rfl rfl ?_
      refine mj_T.iadd (b := 1) rfl ?_
      refine mj_T.imax (a := 0) rfl rfl (Nat.le_of_ble_eq_true rfl) ⟨by omega, by omega⟩ ⟨by omega, by omega⟩ ?_
      rw [show max 0 ((k : Int) - (jnl b : Nat) + 1) = ((k + 1 - jnl b : Nat) : Int) by omega]
      refine mj_T.pl rfl rfl rfl rfl ?_
      refine jw_prod_in (a := a) (b := b) (k := k) hn hm1 hm2 ha hb hq1 hq2 (by omega) hcols rfl (fun low cnt i hT hcnt hl8 => ?_) ((min (k : Int) (jnl a - 1) + 1 - (k + 1 - jnl b : Nat)).toNat) (k + 1 - jnl b) (jcc a b k) 0 ?_ (by omega) (by omega) ?_ (Nat.zero_le _) (by omega)
      · rw [← hT] at hlim hnx
        have hlim2 : jlb (a * b) k = low % 1000000000 := by
          rw [hlim]
          show (low + cnt * 8000000000000000000) % 1000000000 = _
          omega
        have hnx2 : jcc a b (k + 1) = cnt * 8000000000 + low / 1000000000 := by
          rw [hnx]
          show (low + cnt * 8000000000000000000) / 1000000000 = _
          omega
        have t4 : ∀ (gi' : Nat → Int32) (v : Value) (l9 l10 l11 l12 l13 l14 : Option Value), v = .int (jn (jnl (a * b % jB ^ (k + 1)))) → gi' = upd gi k (jn (jlb (a * b) k)) → mj_T D mj_m95 199 (jL3 (jnl a) (jnl b) cols (jcc a b (k + 1)) k [l9, l10, l11, l12, l13, l14]) [v, .ref 0] (jH3 n m1 m2 (jnl (a * b % jB ^ k)) (jnl a) (jnl b) g0 t1 t2 gi' q1 q2) Q := by
          intro gi' v l9 l10 l11 l12 l13 l14 hv hgi'
          subst hv
          subst hgi'
          refine mj_T.pl rfl rfl rfl rfl ?_
          refine mj_T.iinc (a := k) rfl rfl ?_
          refine mj_T.pl rfl rfl rfl rfl ?_
          refine ih (k + 1) (upd gi k (jn (jlb (a * b) k))) l9 l10 l11 l12 l13 l14 (by omega) (fun j hj => ?_)
          unfold upd
          split
          · rename_i h; rw [h]
          · exact hgi j (by omega)
        iterate 3 refine mj_T.pl rfl rfl rfl rfl ?_
        refine mj_T.ldiv (b := 1000000000) rfl ⟨by omega, by omega⟩ ⟨by omega, by omega⟩ (by omega) ?_
        refine mj_T.ladd rfl ?_
        rw [show (cnt : Int) * 8000000000 + (low : Int).tdiv 1000000000 = ((jcc a b (k + 1) : Nat) : Int) by rw [hnx2, Int.natCast_add, Int.natCast_mul]; rfl]
        iterate 6 refine mj_T.pl rfl rfl rfl rfl ?_
        refine mj_T.lrem (b := 1000000000) rfl ⟨by omega, by omega⟩ ⟨by omega, by omega⟩ (by omega) ?_
        rw [show (low : Int).tmod 1000000000 = ((jlb (a * b) k : Nat) : Int) by rw [hlim2]; rfl]
        refine mj_T.l2i rfl ?_
        refine mj_T.iast rfl rfl ⟨by omega, by omega⟩ ⟨by omega, by omega⟩ ?_
        iterate 4 refine mj_T.pl rfl rfl rfl rfl ?_
        refine mj_T.ialv (z := (jlb (a * b) k : Nat)) rfl rfl ⟨by omega, by omega⟩ ⟨by omega, by omega⟩ (if_pos rfl) ?_
        refine mj_T.if0 rfl ⟨by omega, by omega⟩ (fun hc185 => ?_) (fun hc185 => ?_)
        · simp only [jc, decide_eq_true_eq] at hc185
          iterate 2 refine mj_T.pl rfl rfl rfl rfl ?_
          exact t4 _ _ _ _ _ _ _ _ (by rw [jnl_mod_same (by omega)]) rfl
        · simp only [jc, decide_eq_false_iff_not] at hc185
          iterate 2 refine mj_T.pl rfl rfl rfl rfl ?_
          refine mj_T.iadd (b := 1) rfl ?_
          refine mj_T.pl rfl rfl rfl rfl ?_
          exact t4 _ _ _ _ _ _ _ _ (by rw [jnl_mod_top (by omega)]; rfl) rfl
      · omega
      · rw [Nat.zero_mul, Nat.add_zero]
        have := jsm_flat' (f := fun i => jlb a i * jlb b (k - i)) (Nat.zero_le (k + 1 - jnl b)) (fun i _ h => by
          show jlb a i * jlb b (k - i) = 0
          rw [jlb_high (show jnl b ≤ k - i by omega), Nat.mul_zero])
        rw [this]
        rfl
theorem jw_setProduct {D n m1 m2 : Nat} {u w : Int} {s0 g0 : Int32} {g q1 q2 : Nat → Int32} (hn : n ≤ 1000) (hm1 : m1 ≤ 1000) (hm2 : m2 ≤ 1000) (ha : jnl u.natAbs ≤ m1) (hb : jnl w.natAbs ≤ m2) (hcap : jnl (u * w).natAbs ≤ n) (hq1 : ∀ j, j < jnl u.natAbs → q1 j = jn (jlb u.natAbs j)) (hq2 : ∀ j, j < jnl w.natAbs → q2 j = jn (jlb w.natAbs j)) :
    mj_Ok (D + 1) 95 [.ref 0, .ref 2, .ref 4] [.inr (8, [.ref 1, .int s0, .int g0]), .inl (0, n, fun j => .int (g j)), .inr (8, [.ref 3, .int (jn (jnl u.natAbs)), .int (jn (jsg u))]), .inl (0, m1, fun j => .int (q1 j)), .inr (8, [.ref 5, .int (jn (jnl w.natAbs)), .int (jn (jsg w))]), .inl (0, m2, fun j => .int (q2 j))]
      (fun r => ∃ g' : Nat → Int32, (∀ j, j < jnl (u * w).natAbs → g' j = jn (jlb (u * w).natAbs j)) ∧ r = (.inl none, jH3 n m1 m2 (jnl (u * w).natAbs) (jnl u.natAbs) (jnl w.natAbs) (jn (jsg (u * w))) (jsg u) (jsg w) g' q1 q2)) := by
  have hsu := jsg_range u
  have hsw := jsg_range w
  have huw : (u * w).natAbs = u.natAbs * w.natAbs := Int.natAbs_mul u w
  have hnm := jnl_mul u.natAbs w.natAbs
  have hss : jsg u * jsg w = jsg (u * w) := by
    unfold jsg
    rcases Int.lt_trichotomy u 0 with h1 | h1 | h1 <;> rcases Int.lt_trichotomy w 0 with h2 | h2 | h2
    · rw [if_pos h1, if_pos h2, if_neg (Int.not_lt.mpr (Int.le_of_lt (Int.mul_pos_of_neg_of_neg h1 h2))), if_pos (Int.mul_pos_of_neg_of_neg h1 h2)]; rfl
    · subst h2; simp
    · rw [if_pos h1, if_neg (by omega), if_pos h2, if_pos (Int.mul_neg_of_neg_of_pos h1 h2)]; rfl
    · subst h1; simp
    · subst h1; simp
    · subst h1; simp
    · rw [if_neg (by omega), if_pos h1, if_pos h2, if_pos (Int.mul_neg_of_pos_of_neg h1 h2)]; rfl
    · subst h2; simp
    · rw [if_neg (by omega), if_pos h1, if_neg (by omega), if_pos h2, if_neg (Int.not_lt.mpr (Int.le_of_lt (Int.mul_pos h1 h2))), if_pos (Int.mul_pos h1 h2)]; rfl
  rw [huw] at hcap ⊢
  refine mj_Ok.of (M := mj_m95) rfl rfl rfl ?_
  iterate 4 refine mj_T.pl rfl rfl rfl rfl ?_
  refine mj_T.alen rfl rfl ?_
  refine mj_T.imin rfl rfl (Nat.le_of_ble_eq_true rfl) ⟨by omega, by omega⟩ ⟨by omega, by omega⟩ ?_
  rw [show min (jnl u.natAbs : Int) (m1 : Int) = (jnl u.natAbs : Nat) by omega]
  iterate 5 refine mj_T.pl rfl rfl rfl rfl ?_
  refine mj_T.alen rfl rfl ?_
  refine mj_T.imin rfl rfl (Nat.le_of_ble_eq_true rfl) ⟨by omega, by omega⟩ ⟨by omega, by omega⟩ ?_
  rw [show min (jnl w.natAbs : Int) (m2 : Int) = (jnl w.natAbs : Nat) by omega]
  iterate 3 refine mj_T.pl rfl rfl rfl rfl ?_
  refine mj_T.iadd rfl ?_
  iterate 2 refine mj_T.pl rfl rfl rfl rfl ?_
  refine mj_T.alen rfl rfl ?_
  refine mj_T.imin rfl rfl (Nat.le_of_ble_eq_true rfl) ⟨by omega, by omega⟩ ⟨by omega, by omega⟩ ?_
  rw [show min ((jnl u.natAbs : Int) + (jnl w.natAbs : Int)) (n : Int) = ((min (jnl u.natAbs + jnl w.natAbs) n : Nat) : Int) by omega]
  iterate 8 refine mj_T.pl rfl rfl rfl rfl ?_
  have hz : jnl (u.natAbs * w.natAbs) ≤ min (jnl u.natAbs + jnl w.natAbs) n := by omega
  refine mj_T.eq (jw_prod_out (a := u.natAbs) (b := w.natAbs) (g := g) (g0 := g0) (t1 := jsg u) (t2 := jsg w) (cols := min (jnl u.natAbs + jnl w.natAbs) n) hn hm1 hm2 ha hb hq1 hq2 (by omega) (by omega) (fun gi l hl hgi => ?_) _ 0 g none none none none none none (Nat.zero_add _) (fun j hj => by omega)) rfl ?_ rfl ?_
  · rw [jmod_full hz]
    iterate 3 refine mj_T.pl rfl rfl rfl rfl ?_
    refine mj_T.if0 rfl ⟨by omega, by omega⟩ (fun hc213 => ?_) (fun hc213 => ?_)
    · iterate 4 refine mj_T.pl rfl rfl rfl rfl ?_
      refine mj_T.imul rfl ?_
      rw [hss]
      refine mj_T.pl rfl rfl rfl rfl ?_
      exact mj_T.ret rfl rfl rfl ⟨gi, fun j hj => hgi j (by omega), rfl⟩
    · simp only [jc, Bool.not_eq_false', decide_eq_true_eq] at hc213
      have h0 : u * w = 0 := by have := jnl_eq0 (x := u.natAbs * w.natAbs); omega
      iterate 3 refine mj_T.pl rfl rfl rfl rfl ?_
      refine mj_T.ret rfl rfl rfl ⟨gi, fun j hj => hgi j (by omega), ?_⟩
      rw [h0]
      rfl
  · rw [jcc_zero]; rfl
  · rw [show u.natAbs * w.natAbs % jB ^ 0 = 0 by simp [Nat.mod_one], jnl_zero]
    rfl
/-! Long division, one limb of the quotient (Knuth, Algorithm D): the guess out of the top limbs. -/
/-- the quotient of the tops is the quotient or one more -/
theorem jkn {U V u3 w u' v' P : Nat} (hP : 0 < P) (hU : U = u3 * P + u') (hu : u' < P) (hV : V = w * P + v') (hv : v' < P) (hw : jB * jB ≤ 2 * w) (hlt : U < V * jB) : U / V ≤ u3 / w ∧ u3 / w ≤ U / V + 1 := by
  have hw0 : 0 < w := by
    have : 0 < jB * jB := by decide
    omega
  have hV0 : 0 < V := by rw [hV]; exact Nat.lt_of_lt_of_le (Nat.mul_pos hw0 hP) (Nat.le_add_right _ _)
  constructor
  · rw [Nat.le_div_iff_mul_le hw0]
    have h1 : U / V * V ≤ U := Nat.div_mul_le_self U V
    have h2 : U / V * w * P ≤ U := by
      rw [Nat.mul_assoc]
      exact Nat.le_trans (Nat.mul_le_mul_left _ (by rw [hV]; exact Nat.le_add_right _ _)) h1
    have h3 : U / V * w * P < (u3 + 1) * P := by rw [Nat.succ_mul]; omega
    have := Nat.lt_of_mul_lt_mul_right h3
    omega
  · apply Decidable.byContradiction
    intro hn
    have hq : U / V + 2 ≤ u3 / w := by omega
    -- the guess is at most the base
    have h1 : u3 / w * w ≤ u3 := Nat.div_mul_le_self u3 w
    have h2 : u3 / w * w * P ≤ U := by
      rw [hU]
      exact Nat.le_trans (Nat.mul_le_mul_right P h1) (Nat.le_add_right _ _)
    have h3 : U < (U / V + 1) * V := by rw [Nat.mul_comm]; exact Nat.lt_mul_div_succ U hV0
    generalize hQ : u3 / w = Q at *
    generalize hq0 : U / V = q at *
    have hqB : q < jB := by rw [← hq0, Nat.div_lt_iff_lt_mul hV0, Nat.mul_comm]; exact hlt
    -- Q * w * P <= U < (q + 1) * V <= (Q - 1) * V = (Q - 1) * (w P + v')
    have h4 : Q * w * P < (Q - 1) * V := Nat.lt_of_lt_of_le (Nat.lt_of_le_of_lt h2 h3) (Nat.mul_le_mul_right V (by omega))
    rw [hV, Nat.mul_add] at h4
    have h5 : Q * w * P = (Q - 1) * (w * P) + w * P := by
      rw [Nat.mul_assoc, ← Nat.succ_mul]
      congr 1
      omega
    have h6 : w * P < (Q - 1) * v' := by omega
    have h7 : (Q - 1) * v' ≤ (Q - 1) * P := Nat.mul_le_mul_left _ (Nat.le_of_lt hv)
    have h8 : w < Q - 1 := Nat.lt_of_mul_lt_mul_right (Nat.lt_of_lt_of_le h6 h7)
    -- but Q * w * P < V * B < (w + 1) * P * B
    have h9 : Q * w * P < (w + 1) * jB * P := by
      refine Nat.lt_of_le_of_lt h2 (Nat.lt_of_lt_of_le hlt ?_)
      rw [Nat.mul_assoc, Nat.mul_comm jB P, ← Nat.mul_assoc]
      exact Nat.mul_le_mul_right jB (by rw [hV, Nat.succ_mul]; omega)
    have h10 : Q * w < (w + 1) * jB := Nat.lt_of_mul_lt_mul_right h9
    have h11 : w * w < (w + 1) * jB := Nat.lt_of_le_of_lt (Nat.mul_le_mul_right w (by omega)) h10
    have hwB : 2 * jB ≤ w := by
      have : 4 * jB ≤ jB * jB := Nat.mul_le_mul_right jB (by decide)
      omega
    have h12 : 2 * jB * w ≤ w * w := Nat.mul_le_mul_right w hwB
    have h13 : (w + 1) * jB = w * jB + jB := Nat.succ_mul w jB
    have h14 : 2 * jB * w = w * jB + w * jB := by rw [Nat.mul_assoc, Nat.two_mul, Nat.mul_comm]
    have h15 : jB ≤ w * jB := Nat.le_mul_of_pos_left jB hw0
    omega
/-- one correction more, or not -/
theorem jkg {t l v2 u2 G : Nat} (hl : 0 < l) : (G * v2 > (t - G * l) * jB + u2 ↔ G * (l * jB + v2) > t * jB + u2) ∨ t < G * l := by
  by_cases h : t < G * l
  · exact Or.inr h
  · refine Or.inl ?_
    have e : t * jB = (t - G * l) * jB + G * l * jB := by rw [← Nat.add_mul]; congr 1; omega
    rw [Nat.mul_add, ← Nat.mul_assoc, e]
    omega
/-- one round of the guess's correction -/
def jgs (l v2 u2 : Nat) (p : Nat × Nat) : Nat × Nat := if p.2 < jB ∧ (jB ≤ p.1 ∨ p.2 * jB + u2 < p.1 * v2) then (p.1 - 1, p.2 + l) else p
/-- what is known of a guess G with its rest: it isn't below q, and it is the greatest that goes into t, less k -/
def jgi (t l q : Nat) (p : Nat × Nat) (k : Nat) : Prop := p.1 * l + p.2 = t ∧ q ≤ p.1 ∧ p.1 + k = t / l
theorem jgs_step {t l v2 u2 q k : Nat} {p : Nat × Nat} (hq : q < jB) (hw : q * (l * jB + v2) ≤ t * jB + u2) (h : jgi t l q p k) (hc : p.2 < jB ∧ (jB ≤ p.1 ∨ p.2 * jB + u2 < p.1 * v2)) : jgi t l q (p.1 - 1, p.2 + l) (k + 1) ∧ q < p.1 := by
  obtain ⟨h1, h2, h3⟩ := h
  have hlt : q < p.1 := by
    apply Decidable.byContradiction
    intro hn
    have e : p.1 = q := by omega
    rcases hc.2 with h4 | h4
    · omega
    · rw [e] at h1 h4
      have h5 : t * jB = q * (l * jB) + p.2 * jB := by rw [← h1, Nat.add_mul, Nat.mul_assoc]
      rw [Nat.mul_add, h5] at hw
      omega
  refine ⟨⟨?_, by show q ≤ p.1 - 1; omega, by show p.1 - 1 + (k + 1) = t / l; omega⟩, hlt⟩
  show (p.1 - 1) * l + (p.2 + l) = t
  have : p.1 * l = (p.1 - 1) * l + l := by rw [← Nat.succ_mul]; congr 1; omega
  omega
theorem jguess {t l v2 u2 q : Nat} (hl : jB ≤ 2 * l) (hv2 : v2 < jB) (hu2 : u2 < jB) (ht : t < (l + 1) * jB) (hq : q < jB) (hq1 : q ≤ (t * jB + u2) / (l * jB + v2)) (hq2 : (t * jB + u2) / (l * jB + v2) ≤ q + 1) :
    q ≤ (jgs l v2 u2 (jgs l v2 u2 (t / l, t % l))).1 ∧ (jgs l v2 u2 (jgs l v2 u2 (t / l, t % l))).1 ≤ q + 1 := by
  have hl0 : 0 < l := by
    have : 0 < jB := by decide
    omega
  have hw0 : 0 < l * jB + v2 := Nat.lt_of_lt_of_le (Nat.mul_pos hl0 (by decide)) (Nat.le_add_right _ _)
  have hqw : q * (l * jB + v2) ≤ t * jB + u2 := (Nat.le_div_iff_mul_le hw0).mp hq1
  have hup : t * jB + u2 < (q + 2) * (l * jB + v2) := by
    have := Nat.lt_mul_div_succ (t * jB + u2) hw0
    refine Nat.lt_of_lt_of_le this ?_
    rw [Nat.mul_comm]
    exact Nat.mul_le_mul_right _ (by omega)
  -- a guess that isn't too great
  have hstop : ∀ p : Nat × Nat, ∀ k, jgi t l q p k → p.1 * v2 ≤ p.2 * jB + u2 → p.1 ≤ q + 1 := by
    intro p k hp h2
    apply Decidable.byContradiction
    intro hn
    have h3 : (q + 2) * (l * jB + v2) ≤ p.1 * (l * jB + v2) := Nat.mul_le_mul_right _ (by omega)
    have h4 : t * jB = p.1 * (l * jB) + p.2 * jB := by rw [← hp.1, Nat.add_mul, Nat.mul_assoc]
    rw [Nat.mul_add p.1] at h3
    omega
  have hG : t / l ≤ jB + 1 := by
    have h1 : t / l < jB + 2 := by
      rw [Nat.div_lt_iff_lt_mul hl0]
      refine Nat.lt_of_lt_of_le ht ?_
      rw [Nat.succ_mul, Nat.add_mul, Nat.mul_comm]
      omega
    omega
  have i0 : jgi t l q (t / l, t % l) 0 := by
    refine ⟨?_, ?_, rfl⟩
    · show t / l * l + t % l = t
      rw [Nat.mul_comm]
      exact Nat.div_add_mod t l
    · show q ≤ t / l
      rw [Nat.le_div_iff_mul_le hl0]
      have h1 : q * l * jB < (t + 1) * jB := by
        rw [Nat.succ_mul, Nat.mul_assoc]
        have : q * (l * jB) ≤ q * (l * jB + v2) := Nat.mul_le_mul_left _ (Nat.le_add_right _ _)
        omega
      have := Nat.lt_of_mul_lt_mul_right h1
      omega
  have hr0 : t % l < jB ∨ jB ≤ t % l := by omega
  -- what stands where no correction is made
  have hno : ∀ p : Nat × Nat, ∀ k, jgi t l q p k → (p.2 < jB ∨ p.1 ≤ jB) → ¬ (p.2 < jB ∧ (jB ≤ p.1 ∨ p.2 * jB + u2 < p.1 * v2)) → p.1 ≤ q + 1 := by
    intro p k hp h1 h2
    refine hstop p k hp ?_
    by_cases h3 : p.2 < jB
    · have : ¬ (p.2 * jB + u2 < p.1 * v2) := fun h => h2 ⟨h3, Or.inr h⟩
      omega
    · have h4 : p.1 ≤ jB := by omega
      have h5 : p.1 * v2 ≤ jB * jB := Nat.mul_le_mul h4 (Nat.le_of_lt hv2)
      have h6 : jB * jB ≤ p.2 * jB := Nat.mul_le_mul_right _ (by omega)
      omega
  have hlB : l ≤ jB ∨ jB < l := by omega
  unfold jgs
  by_cases c1 : (t / l, t % l).2 < jB ∧ (jB ≤ (t / l, t % l).1 ∨ (t / l, t % l).2 * jB + u2 < (t / l, t % l).1 * v2)
  · rw [if_pos c1]
    obtain ⟨i1, l1⟩ := jgs_step hq hqw i0 c1
    have hG1 : t / l - 1 ≤ jB := by omega
    by_cases c2 : (t / l - 1, t % l + l).2 < jB ∧ (jB ≤ (t / l - 1, t % l + l).1 ∨ (t / l - 1, t % l + l).2 * jB + u2 < (t / l - 1, t % l + l).1 * v2)
    · simp only at c1 c2 ⊢
      rw [if_pos c2]
      obtain ⟨i2, l2⟩ := jgs_step hq hqw i1 c2
      refine ⟨i2.2.1, ?_⟩
      -- two corrections are enough
      refine hstop _ _ i2 ?_
      show (t / l - 1 - 1) * v2 ≤ (t % l + l + l) * jB + u2
      have h5 : (t / l - 1 - 1) * v2 ≤ jB * jB := Nat.mul_le_mul (by omega) (Nat.le_of_lt hv2)
      have h6 : jB * jB ≤ (t % l + l + l) * jB := Nat.mul_le_mul_right _ (by omega)
      omega
    · simp only at c1 c2 ⊢
      rw [if_neg c2]
      exact ⟨i1.2.1, hno _ _ i1 (Or.inr hG1) c2⟩
  · rw [if_neg c1]
    have h7 : (t / l, t % l).2 < jB ∨ (t / l, t % l).1 ≤ jB := by
      rcases hr0 with h | h
      · exact Or.inl h
      · refine Or.inr ?_
        show t / l ≤ jB
        have hm := Nat.mod_lt t hl0
        have h8 : t / l < jB + 1 + 1 := by omega
        have h9 : t / l * l + t % l = t := by rw [Nat.mul_comm]; exact Nat.div_add_mod t l
        apply Decidable.byContradiction
        intro hn
        have h10 : (jB + 1) * l ≤ t / l * l := Nat.mul_le_mul_right _ (by omega)
        have h11 : (jB + 1) * l = l * jB + l := by rw [Nat.succ_mul, Nat.mul_comm]
        have h12 : (l + 1) * jB = l * jB + jB := Nat.succ_mul l jB
        omega
    rw [if_neg c1]
    exact ⟨i0.2.1, hno _ _ i0 h7 c1⟩
